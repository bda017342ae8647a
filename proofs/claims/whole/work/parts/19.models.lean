/-! The model's methods (by program). -/
theorem vp_lit {x : Int32} {n : Nat} (h : ¬ x < 0 ∧ x.toNatClampNeg < n) : vp_in x n := fun q => q.elim h.1 (fun q => Nat.not_le.mpr h.2 q)
theorem tl0 : (0 : Int32).toNatClampNeg = 0 := rfl
theorem tl1 : (1 : Int32).toNatClampNeg = 1 := rfl
theorem tl2 : (2 : Int32).toNatClampNeg = 2 := rfl
theorem tl3 : (3 : Int32).toNatClampNeg = 3 := rfl
theorem tl4 : (4 : Int32).toNatClampNeg = 4 := rfl
theorem tl5 : (5 : Int32).toNatClampNeg = 5 := rfl
theorem tl6 : (6 : Int32).toNatClampNeg = 6 := rfl
theorem tl7 : (7 : Int32).toNatClampNeg = 7 := rfl
theorem tl8 : (8 : Int32).toNatClampNeg = 8 := rfl
theorem dX7_startPrediction_0 : decode cX7_startPrediction 0 = .ok (.iconst 0, 1) := by decide +kernel
theorem dX7_startPrediction_1 : decode cX7_startPrediction 1 = .ok (.istore_n 1, 1) := by decide +kernel
theorem dX7_startPrediction_2 : decode cX7_startPrediction 2 = .ok (.iload_n 1, 1) := by decide +kernel
theorem dX7_startPrediction_3 : decode cX7_startPrediction 3 = .ok (.sipush 146, 3) := by decide +kernel
theorem dX7_startPrediction_6 : decode cX7_startPrediction 6 = .ok (.if_icmp .ge 21, 3) := by decide +kernel
theorem dX7_startPrediction_9 : decode cX7_startPrediction 9 = .ok (.aload_n 0, 1) := by decide +kernel
theorem dX7_startPrediction_10 : decode cX7_startPrediction 10 = .ok (.getfield 20, 3) := by decide +kernel
theorem dX7_startPrediction_13 : decode cX7_startPrediction 13 = .ok (.iload_n 1, 1) := by decide +kernel
theorem dX7_startPrediction_14 : decode cX7_startPrediction 14 = .ok (.aload_n 0, 1) := by decide +kernel
theorem dX7_startPrediction_15 : decode cX7_startPrediction 15 = .ok (.getfield 13, 3) := by decide +kernel
theorem dX7_startPrediction_18 : decode cX7_startPrediction 18 = .ok (.iload_n 1, 1) := by decide +kernel
theorem dX7_startPrediction_19 : decode cX7_startPrediction 19 = .ok (.iaload, 1) := by decide +kernel
theorem dX7_startPrediction_20 : decode cX7_startPrediction 20 = .ok (.iastore, 1) := by decide +kernel
theorem dX7_startPrediction_21 : decode cX7_startPrediction 21 = .ok (.iinc 1 1, 3) := by decide +kernel
theorem dX7_startPrediction_24 : decode cX7_startPrediction 24 = .ok (.goto (-22), 3) := by decide +kernel
theorem dX7_startPrediction_27 : decode cX7_startPrediction 27 = .ok (.aload_n 0, 1) := by decide +kernel
theorem dX7_startPrediction_28 : decode cX7_startPrediction 28 = .ok (.aload_n 0, 1) := by decide +kernel
theorem dX7_startPrediction_29 : decode cX7_startPrediction 29 = .ok (.getfield 20, 3) := by decide +kernel
theorem dX7_startPrediction_32 : decode cX7_startPrediction 32 = .ok (.putfield 23, 3) := by decide +kernel
theorem dX7_startPrediction_35 : decode cX7_startPrediction 35 = .ok (.return_, 1) := by decide +kernel
def fX7_startPrediction_2   : Nat → Int32 → Md → Int32 × Md
  | 0, x1, y => (x1, y)
  | fu + 1, x1, y => (if 146 ≤ x1 then (x1, y) else (bnd (mA y 2 (upd (y.2.1 2) x1.toNatClampNeg ((y.2.1 0) x1.toNatClampNeg))) (fun r5 => (fX7_startPrediction_2    fu (x1 + 1) r5))))
def sX7_startPrediction_2   : Nat → Int32 → Md → Prop
  | 0, _, _ => True
  | fu + 1, x1, y => ((146 ≤ x1 → True) ∧ (¬ 146 ≤ x1 → (vp_in x1 146 ∧ (vp_in x1 146 ∧ (bnd (mA y 2 (upd (y.2.1 2) x1.toNatClampNeg ((y.2.1 0) x1.toNatClampNeg))) (fun r5 => (sX7_startPrediction_2    fu (x1 + 1) r5)))))))
set_option maxRecDepth 20000 in
theorem wX7_startPrediction_2 {l : Launch} {G : GM} {K : Nat → Option va_E}    {Q : Option Value → List va_E → Prop} : ∀ (fu : Nat) (x1 : Int32) (y : Md) (iv : ivU 146 x1 fu) (hs : sX7_startPrediction_2    fu x1 y) {h : List va_E} (gy : HM G K h y) (kx : ∀ (h1 : List va_E) (r : Int32 × Md), (fX7_startPrediction_2    fu x1 y) = r → HM G K h1 r.2 → Tr l G mX7_startPrediction 0 0 0 27 [(1, .int r.1), (0, .ref (gz G + 221))] [] h1 Q), Tr l G mX7_startPrediction 0 0 0 2 [(1, .int x1), (0, .ref (gz G + 221))] [] h Q := by
  intro fu
  induction fu with
  | zero => intro x1 y iv; intros; exact absurd iv ivU_0
  | succ fu ih =>
    intro x1 y iv hs  h gy  kx
    rw [sX7_startPrediction_2] at hs
    refine am_iload_n dX7_startPrediction_2 0 rfl ?_
    refine am_sipush (v := 146) dX7_startPrediction_3 (by decide) ?_
    refine am_icmp_ge dX7_startPrediction_6 (by decide : ((6 : Nat) : Int) + (21) = ((27 : Nat) : Int)) (fun c1 => ?_) (fun c1 => ?_)
    · have hs := hs.1 c1
      exact kx _ _ (ifp c1 (rfl)) gy 
    · have hs := hs.2 c1
      refine am_aload_n dX7_startPrediction_9 1 rfl ?_
      refine am_get (v := .ref (gz G + 224)) dX7_startPrediction_10 kGX7_20 (hmc221 (m := y) gy) rfl ?_
      refine am_iload_n dX7_startPrediction_13 0 rfl ?_
      refine am_aload_n dX7_startPrediction_14 1 rfl ?_
      refine am_get (v := .ref (gz G + 222)) dX7_startPrediction_15 kGX7_13 (hmc221 (m := y) gy) rfl ?_
      refine am_iload_n dX7_startPrediction_18 0 rfl ?_
      obtain ⟨i2, hs⟩ := hs
      refine am_iald (f := (y.2.1 0)) dX7_startPrediction_19 (hmc222 (m := y) gy) i2 ?_
      obtain ⟨i3, hs⟩ := hs
      refine am_iast (f := (y.2.1 2)) dX7_startPrediction_20 (hmc224 (m := y) gy) i3 ?_
      have w4 := hmA2 gy (upd (y.2.1 2) x1.toNatClampNeg ((y.2.1 0) x1.toNatClampNeg))
      obtain ⟨r5, e6⟩ : ∃ x, (mA y 2 (upd (y.2.1 2) x1.toNatClampNeg ((y.2.1 0) x1.toNatClampNeg))) = x := ⟨_, rfl⟩
      have w7 := hm_eq e6 w4
      have hs := bnd_p e6 hs
      refine am_iinc (v := (x1 + 1)) dX7_startPrediction_21 0 rfl rfl (by decide) (lv' := [(1, .int (x1 + 1)), (0, .ref (gz G + 221))]) rfl ?_
      refine am_goto dX7_startPrediction_24 (by decide : ((24 : Nat) : Int) + (-22) = ((2 : Nat) : Int)) ?_
      exact ih (x1 + 1) r5 (ivU_s c1 iv) hs w7  (fun h1 r e => kx h1 r (Eq.trans (ifn c1 (bnd_eq e6 (rfl))) e))
def fX7_startPrediction (m : Md)  : Md := (bnd (fX7_startPrediction_2    (fuU 146 0) 0 m) (fun r9 => (mN r9.2 2)))
def sX7_startPrediction (m : Md)  : Prop := ((sX7_startPrediction_2    (fuU 146 0) 0 m) ∧ bnd (fX7_startPrediction_2    (fuU 146 0) 0 m) (fun r9 => True))
set_option maxRecDepth 20000 in
theorem ctX7_startPrediction {l : Launch} {G : GM} {K : Nat → Option va_E} {h : List va_E} {m : Md} (hm : HM G K h m)  (hs : sX7_startPrediction m ) : Ct l G mX7_startPrediction 0 0 0 [.ref (gz G + 221)] h (fun v h1 => ∃ r, (fX7_startPrediction m ) = r ∧ v = none ∧ HM G K h1 r) := by
  show Tr l G mX7_startPrediction 0 0 0 0 [(0, .ref (gz G + 221))] [] h _
  unfold sX7_startPrediction at hs
  refine am_iconst (v := 0) dX7_startPrediction_0 (by decide) ?_
  refine am_istore_n dX7_startPrediction_1 (by decide) (lv' := [(1, .int 0), (0, .ref (gz G + 221))]) rfl ?_
  obtain ⟨i8, hs⟩ := hs
  refine wX7_startPrediction_2    (fuU 146 0) 0 m ivU_i i8 hm  (fun h11 r9 e10 w12  => ?_)
  have hs := bnd_p e10 hs
  refine am_aload_n dX7_startPrediction_27 1 rfl ?_
  refine am_aload_n dX7_startPrediction_28 1 rfl ?_
  refine am_get (v := .ref (gz G + 224)) dX7_startPrediction_29 kGX7_20 (hmc221 (m := r9.2) w12) rfl ?_
  refine am_put dX7_startPrediction_32 kFX7_23 (hmc221 (m := r9.2) w12) (Nat.le_of_ble_eq_true rfl) rfl rfl ?_
  have w13 := hmNs w12 2 (by decide)
  exact am_return dX7_startPrediction_35 rfl ⟨_, bnd_eq e10 (rfl), rfl, w13⟩

theorem dX7_at_0 : decode cX7_at 0 = .ok (.bipush 62, 2) := by decide +kernel
theorem dX7_at_2 : decode cX7_at 2 = .ok (.bipush 6, 2) := by decide +kernel
theorem dX7_at_4 : decode cX7_at 4 = .ok (.iload_n 0, 1) := by decide +kernel
theorem dX7_at_5 : decode cX7_at 5 = .ok (.imul, 1) := by decide +kernel
theorem dX7_at_6 : decode cX7_at 6 = .ok (.iadd, 1) := by decide +kernel
theorem dX7_at_7 : decode cX7_at 7 = .ok (.iload_n 1, 1) := by decide +kernel
theorem dX7_at_8 : decode cX7_at 8 = .ok (.iadd, 1) := by decide +kernel
theorem dX7_at_9 : decode cX7_at 9 = .ok (.ireturn, 1) := by decide +kernel
def fX7_at (z1 : Int32) (z2 : Int32) : Int32 := (((62 : Int32) + ((6 : Int32) * z1)) + z2)
set_option maxRecDepth 20000 in
theorem ctX7_at {l : Launch} {G : GM} {h : List va_E} (z1 : Int32) (z2 : Int32) : Ct l G mX7_at 0 0 0 [.int z1, .int z2] h (fun v h1 => v = some (.int (fX7_at z1 z2)) ∧ h1 = h) := by
  show Tr l G mX7_at 0 0 0 0 [(0, .int z1), (1, .int z2)] [] h _
  refine am_bipush (v := 62) dX7_at_0 (by decide) ?_
  refine am_bipush (v := 6) dX7_at_2 (by decide) ?_
  refine am_iload_n dX7_at_4 0 rfl ?_
  refine am_imul dX7_at_5 ?_
  refine am_iadd dX7_at_6 ?_
  refine am_iload_n dX7_at_7 1 rfl ?_
  refine am_iadd dX7_at_8 ?_
  rw [show (fX7_at z1 z2) = (((62 : Int32) + ((6 : Int32) * z1)) + z2) from rfl]
  exact am_ireturn dX7_at_9 rfl rfl ⟨rfl, rfl⟩

theorem dX7_field_0 : decode cX7_field 0 = .ok (.aload_n 0, 1) := by decide +kernel
theorem dX7_field_1 : decode cX7_field 1 = .ok (.getfield 23, 3) := by decide +kernel
theorem dX7_field_4 : decode cX7_field 4 = .ok (.iload_n 1, 1) := by decide +kernel
theorem dX7_field_5 : decode cX7_field 5 = .ok (.iload_n 2, 1) := by decide +kernel
theorem dX7_field_6 : decode cX7_field 6 = .ok (.invokestatic 52, 3) := by decide +kernel
theorem dX7_field_9 : decode cX7_field 9 = .ok (.iaload, 1) := by decide +kernel
theorem dX7_field_10 : decode cX7_field 10 = .ok (.ireturn, 1) := by decide +kernel
def fX7_field (m : Md) (z1 : Int32) (z2 : Int32) : Int32 := ((m.2.1 (m.2.2)) (fX7_at z1 z2).toNatClampNeg)
def sX7_field (m : Md) (z1 : Int32) (z2 : Int32) : Prop := (vp_in (fX7_at z1 z2) 146 ∧ True)
set_option maxRecDepth 20000 in
theorem ctX7_field {l : Launch} {G : GM} {K : Nat → Option va_E} {h : List va_E} {m : Md} (hm : HM G K h m) (z1 : Int32) (z2 : Int32) (hs : sX7_field m z1 z2) : Ct l G mX7_field 1 0 0 [.ref (gz G + 221), .int z1, .int z2] h (fun v h1 => v = some (.int (fX7_field m z1 z2)) ∧ h1 = h) := by
  show Tr l G mX7_field 1 0 0 0 [(0, .ref (gz G + 221)), (1, .int z1), (2, .int z2)] [] h _
  unfold sX7_field at hs
  refine am_aload_n dX7_field_0 0 rfl ?_
  refine am_get (v := .ref (gz G + (222 + (m.2.2)))) dX7_field_1 kGX7_23 (hmc221 (m := m) hm) rfl ?_
  refine am_iload_n dX7_field_4 1 rfl ?_
  refine am_iload_n dX7_field_5 2 rfl ?_
  refine am_callS (As := [.int z1, .int z2]) (rest := [.ref (gz G + (222 + (m.2.2)))]) dX7_field_6 kMX7_52 rfl  rfl (Nat.le_of_ble_eq_true rfl) (d2 := 0) (by decide) (k2 := 0) (Nat.zero_le _) (u2 := 0) (Nat.zero_le _) (Nat.le_of_ble_eq_true rfl) (ctX7_at  z1 z2 ) (fun v1 h2 q3 => ?_)
  obtain ⟨rfl, rfl⟩ := q3
  obtain ⟨i4, hs⟩ := hs
  refine am_iald (f := (m.2.1 (m.2.2))) dX7_field_9 (hmN (m := m) hm) i4 ?_
  rw [show (fX7_field m z1 z2) = ((m.2.1 (m.2.2)) (fX7_at z1 z2).toNatClampNeg) from rfl]
  exact am_ireturn dX7_field_10 rfl rfl ⟨rfl, rfl⟩

theorem dX7_count_0 : decode cX7_count 0 = .ok (.aload_n 0, 1) := by decide +kernel
theorem dX7_count_1 : decode cX7_count 1 = .ok (.getfield 23, 3) := by decide +kernel
theorem dX7_count_4 : decode cX7_count 4 = .ok (.bipush 8, 2) := by decide +kernel
theorem dX7_count_6 : decode cX7_count 6 = .ok (.iaload, 1) := by decide +kernel
theorem dX7_count_7 : decode cX7_count 7 = .ok (.ireturn, 1) := by decide +kernel
def fX7_count (m : Md)  : Int32 := ((m.2.1 (m.2.2)) 8)
set_option maxRecDepth 20000 in
theorem ctX7_count {l : Launch} {G : GM} {K : Nat → Option va_E} {h : List va_E} {m : Md} (hm : HM G K h m)  : Ct l G mX7_count 0 0 0 [.ref (gz G + 221)] h (fun v h1 => v = some (.int (fX7_count m )) ∧ h1 = h) := by
  show Tr l G mX7_count 0 0 0 0 [(0, .ref (gz G + 221))] [] h _
  refine am_aload_n dX7_count_0 0 rfl ?_
  refine am_get (v := .ref (gz G + (222 + (m.2.2)))) dX7_count_1 kGX7_23 (hmc221 (m := m) hm) rfl ?_
  refine am_bipush (v := 8) dX7_count_4 (by decide) ?_
  refine am_iald (f := (m.2.1 (m.2.2))) dX7_count_6 (hmN (m := m) hm) (vp_lit (by decide)) ?_
  rw [tl8]
  rw [show (fX7_count m ) = ((m.2.1 (m.2.2)) 8) from rfl]
  exact am_ireturn dX7_count_7 rfl rfl ⟨rfl, rfl⟩

theorem dX7_in_0 : decode cX7_in 0 = .ok (.lload_n 0, 1) := by decide +kernel
theorem dX7_in_1 : decode cX7_in 1 = .ok (.lload_n 2, 1) := by decide +kernel
theorem dX7_in_2 : decode cX7_in 2 = .ok (.lcmp, 1) := by decide +kernel
theorem dX7_in_3 : decode cX7_in 3 = .ok (.ifCond .lt 14, 3) := by decide +kernel
theorem dX7_in_6 : decode cX7_in 6 = .ok (.lload_n 0, 1) := by decide +kernel
theorem dX7_in_7 : decode cX7_in 7 = .ok (.lload 4, 2) := by decide +kernel
theorem dX7_in_9 : decode cX7_in 9 = .ok (.lcmp, 1) := by decide +kernel
theorem dX7_in_10 : decode cX7_in 10 = .ok (.ifCond .gt 7, 3) := by decide +kernel
theorem dX7_in_13 : decode cX7_in 13 = .ok (.iconst 1, 1) := by decide +kernel
theorem dX7_in_14 : decode cX7_in 14 = .ok (.goto 4, 3) := by decide +kernel
theorem dX7_in_17 : decode cX7_in 17 = .ok (.iconst 0, 1) := by decide +kernel
theorem dX7_in_18 : decode cX7_in 18 = .ok (.ireturn, 1) := by decide +kernel
def fX7_in (z1 : Int64) (z2 : Int64) (z3 : Int64) : Int32 := (if (lg_cmp z1 z2) < 0 then 0 else (if 0 < (lg_cmp z1 z3) then 0 else 1))
set_option maxRecDepth 20000 in
theorem ctX7_in {l : Launch} {G : GM} {h : List va_E} (z1 : Int64) (z2 : Int64) (z3 : Int64) : Ct l G mX7_in 0 0 0 [.long z1, .long z2, .long z3] h (fun v h1 => v = some (.int (fX7_in z1 z2 z3)) ∧ h1 = h) := by
  show Tr l G mX7_in 0 0 0 0 [(0, .long z1), (2, .long z2), (4, .long z3)] [] h _
  refine am_lload_n dX7_in_0 0 rfl ?_
  refine am_lload_n dX7_in_1 1 rfl ?_
  refine am_lcmp (v := (lg_cmp z1 z2)) dX7_in_2 rfl ?_
  refine am_if_lt dX7_in_3 (by decide : ((3 : Nat) : Int) + (14) = ((17 : Nat) : Int)) (fun c1 => ?_) (fun c1 => ?_)
  · refine am_iconst (v := 0) dX7_in_17 (by decide) ?_
    rw [show (fX7_in z1 z2 z3) = 0 from Eq.trans (if_pos c1) (rfl)]
    exact am_ireturn dX7_in_18 rfl rfl ⟨rfl, rfl⟩
  · refine am_lload_n dX7_in_6 0 rfl ?_
    refine am_lload dX7_in_7 2 rfl ?_
    refine am_lcmp (v := (lg_cmp z1 z3)) dX7_in_9 rfl ?_
    refine am_if_gt dX7_in_10 (by decide : ((10 : Nat) : Int) + (7) = ((17 : Nat) : Int)) (fun c2 => ?_) (fun c2 => ?_)
    · refine am_iconst (v := 0) dX7_in_17 (by decide) ?_
      rw [show (fX7_in z1 z2 z3) = 0 from Eq.trans (if_neg c1) (Eq.trans (if_pos c2) (rfl))]
      exact am_ireturn dX7_in_18 rfl rfl ⟨rfl, rfl⟩
    · refine am_iconst (v := 1) dX7_in_13 (by decide) ?_
      refine am_goto dX7_in_14 (by decide : ((14 : Nat) : Int) + (4) = ((18 : Nat) : Int)) ?_
      rw [show (fX7_in z1 z2 z3) = 1 from Eq.trans (if_neg c1) (Eq.trans (if_neg c2) (rfl))]
      exact am_ireturn dX7_in_18 rfl rfl ⟨rfl, rfl⟩

theorem dX7_isPiece_0 : decode cX7_isPiece 0 = .ok (.iload_n 1, 1) := by decide +kernel
theorem dX7_isPiece_1 : decode cX7_isPiece 1 = .ok (.i2l, 1) := by decide +kernel
theorem dX7_isPiece_2 : decode cX7_isPiece 2 = .ok (.lconst 0, 1) := by decide +kernel
theorem dX7_isPiece_3 : decode cX7_isPiece 3 = .ok (.aload_n 0, 1) := by decide +kernel
theorem dX7_isPiece_4 : decode cX7_isPiece 4 = .ok (.getfield 13, 3) := by decide +kernel
theorem dX7_isPiece_7 : decode cX7_isPiece 7 = .ok (.bipush 8, 2) := by decide +kernel
theorem dX7_isPiece_9 : decode cX7_isPiece 9 = .ok (.iaload, 1) := by decide +kernel
theorem dX7_isPiece_10 : decode cX7_isPiece 10 = .ok (.iconst 1, 1) := by decide +kernel
theorem dX7_isPiece_11 : decode cX7_isPiece 11 = .ok (.isub, 1) := by decide +kernel
theorem dX7_isPiece_12 : decode cX7_isPiece 12 = .ok (.i2l, 1) := by decide +kernel
theorem dX7_isPiece_13 : decode cX7_isPiece 13 = .ok (.invokestatic 56, 3) := by decide +kernel
theorem dX7_isPiece_16 : decode cX7_isPiece 16 = .ok (.ireturn, 1) := by decide +kernel
def fX7_isPiece (m : Md) (z1 : Int32) : Int32 := (fX7_in (z1.toInt64) 0 ((((m.2.1 0) 8) - 1).toInt64))
def sX7_isPiece (m : Md) (z1 : Int32) : Prop := (narrow .boolean (.int (fX7_in (z1.toInt64) 0 ((((m.2.1 0) 8) - 1).toInt64))) = .int (fX7_in (z1.toInt64) 0 ((((m.2.1 0) 8) - 1).toInt64)) ∧ True)
set_option maxRecDepth 20000 in
theorem ctX7_isPiece {l : Launch} {G : GM} {K : Nat → Option va_E} {h : List va_E} {m : Md} (hm : HM G K h m) (z1 : Int32) (hs : sX7_isPiece m z1) : Ct l G mX7_isPiece 1 0 0 [.ref (gz G + 221), .int z1] h (fun v h1 => v = some (.int (fX7_isPiece m z1)) ∧ h1 = h) := by
  show Tr l G mX7_isPiece 1 0 0 0 [(0, .ref (gz G + 221)), (1, .int z1)] [] h _
  unfold sX7_isPiece at hs
  refine am_iload_n dX7_isPiece_0 1 rfl ?_
  refine am_i2l (v := z1.toInt64) dX7_isPiece_1 rfl ?_
  refine am_lconst (v := 0) dX7_isPiece_2 (by decide) ?_
  refine am_aload_n dX7_isPiece_3 0 rfl ?_
  refine am_get (v := .ref (gz G + 222)) dX7_isPiece_4 kGX7_13 (hmc221 (m := m) hm) rfl ?_
  refine am_bipush (v := 8) dX7_isPiece_7 (by decide) ?_
  refine am_iald (f := (m.2.1 0)) dX7_isPiece_9 (hmc222 (m := m) hm) (vp_lit (by decide)) ?_
  rw [tl8]
  refine am_iconst (v := 1) dX7_isPiece_10 (by decide) ?_
  refine am_isub dX7_isPiece_11 ?_
  refine am_i2l (v := (((m.2.1 0) 8) - 1).toInt64) dX7_isPiece_12 rfl ?_
  refine am_callS (As := [.long (z1.toInt64), .long 0, .long ((((m.2.1 0) 8) - 1).toInt64)]) (rest := []) dX7_isPiece_13 kMX7_56 rfl  rfl (Nat.le_of_ble_eq_true rfl) (d2 := 0) (by decide) (k2 := 0) (Nat.zero_le _) (u2 := 0) (Nat.zero_le _) (Nat.le_of_ble_eq_true rfl) (ctX7_in  (z1.toInt64) 0 ((((m.2.1 0) 8) - 1).toInt64) ) (fun v1 h2 q3 => ?_)
  obtain ⟨rfl, rfl⟩ := q3
  obtain ⟨i4, hs⟩ := hs
  rw [show (fX7_isPiece m z1) = (fX7_in (z1.toInt64) 0 ((((m.2.1 0) 8) - 1).toInt64)) from rfl]
  exact am_ireturn dX7_isPiece_16 rfl i4 ⟨rfl, rfl⟩

theorem dX7_isShape_0 : decode cX7_isShape 0 = .ok (.iload_n 1, 1) := by decide +kernel
theorem dX7_isShape_1 : decode cX7_isShape 1 = .ok (.i2l, 1) := by decide +kernel
theorem dX7_isShape_2 : decode cX7_isShape 2 = .ok (.lconst 0, 1) := by decide +kernel
theorem dX7_isShape_3 : decode cX7_isShape 3 = .ok (.aload_n 0, 1) := by decide +kernel
theorem dX7_isShape_4 : decode cX7_isShape 4 = .ok (.getfield 13, 3) := by decide +kernel
theorem dX7_isShape_7 : decode cX7_isShape 7 = .ok (.bipush 6, 2) := by decide +kernel
theorem dX7_isShape_9 : decode cX7_isShape 9 = .ok (.iaload, 1) := by decide +kernel
theorem dX7_isShape_10 : decode cX7_isShape 10 = .ok (.iconst 1, 1) := by decide +kernel
theorem dX7_isShape_11 : decode cX7_isShape 11 = .ok (.isub, 1) := by decide +kernel
theorem dX7_isShape_12 : decode cX7_isShape 12 = .ok (.i2l, 1) := by decide +kernel
theorem dX7_isShape_13 : decode cX7_isShape 13 = .ok (.invokestatic 56, 3) := by decide +kernel
theorem dX7_isShape_16 : decode cX7_isShape 16 = .ok (.ireturn, 1) := by decide +kernel
def fX7_isShape (m : Md) (z1 : Int32) : Int32 := (fX7_in (z1.toInt64) 0 ((((m.2.1 0) 6) - 1).toInt64))
def sX7_isShape (m : Md) (z1 : Int32) : Prop := (narrow .boolean (.int (fX7_in (z1.toInt64) 0 ((((m.2.1 0) 6) - 1).toInt64))) = .int (fX7_in (z1.toInt64) 0 ((((m.2.1 0) 6) - 1).toInt64)) ∧ True)
set_option maxRecDepth 20000 in
theorem ctX7_isShape {l : Launch} {G : GM} {K : Nat → Option va_E} {h : List va_E} {m : Md} (hm : HM G K h m) (z1 : Int32) (hs : sX7_isShape m z1) : Ct l G mX7_isShape 1 0 0 [.ref (gz G + 221), .int z1] h (fun v h1 => v = some (.int (fX7_isShape m z1)) ∧ h1 = h) := by
  show Tr l G mX7_isShape 1 0 0 0 [(0, .ref (gz G + 221)), (1, .int z1)] [] h _
  unfold sX7_isShape at hs
  refine am_iload_n dX7_isShape_0 1 rfl ?_
  refine am_i2l (v := z1.toInt64) dX7_isShape_1 rfl ?_
  refine am_lconst (v := 0) dX7_isShape_2 (by decide) ?_
  refine am_aload_n dX7_isShape_3 0 rfl ?_
  refine am_get (v := .ref (gz G + 222)) dX7_isShape_4 kGX7_13 (hmc221 (m := m) hm) rfl ?_
  refine am_bipush (v := 6) dX7_isShape_7 (by decide) ?_
  refine am_iald (f := (m.2.1 0)) dX7_isShape_9 (hmc222 (m := m) hm) (vp_lit (by decide)) ?_
  rw [tl6]
  refine am_iconst (v := 1) dX7_isShape_10 (by decide) ?_
  refine am_isub dX7_isShape_11 ?_
  refine am_i2l (v := (((m.2.1 0) 6) - 1).toInt64) dX7_isShape_12 rfl ?_
  refine am_callS (As := [.long (z1.toInt64), .long 0, .long ((((m.2.1 0) 6) - 1).toInt64)]) (rest := []) dX7_isShape_13 kMX7_56 rfl  rfl (Nat.le_of_ble_eq_true rfl) (d2 := 0) (by decide) (k2 := 0) (Nat.zero_le _) (u2 := 0) (Nat.zero_le _) (Nat.le_of_ble_eq_true rfl) (ctX7_in  (z1.toInt64) 0 ((((m.2.1 0) 6) - 1).toInt64) ) (fun v1 h2 q3 => ?_)
  obtain ⟨rfl, rfl⟩ := q3
  obtain ⟨i4, hs⟩ := hs
  rw [show (fX7_isShape m z1) = (fX7_in (z1.toInt64) 0 ((((m.2.1 0) 6) - 1).toInt64)) from rfl]
  exact am_ireturn dX7_isShape_16 rfl i4 ⟨rfl, rfl⟩

theorem dX7_isIn_0 : decode cX7_isIn 0 = .ok (.aload_n 0, 1) := by decide +kernel
theorem dX7_isIn_1 : decode cX7_isIn 1 = .ok (.iload_n 1, 1) := by decide +kernel
theorem dX7_isIn_2 : decode cX7_isIn 2 = .ok (.iconst 5, 1) := by decide +kernel
theorem dX7_isIn_3 : decode cX7_isIn 3 = .ok (.invokevirtual 60, 3) := by decide +kernel
theorem dX7_isIn_6 : decode cX7_isIn 6 = .ok (.iload_n 2, 1) := by decide +kernel
theorem dX7_isIn_7 : decode cX7_isIn 7 = .ok (.if_icmp .ne 7, 3) := by decide +kernel
theorem dX7_isIn_10 : decode cX7_isIn 10 = .ok (.iconst 1, 1) := by decide +kernel
theorem dX7_isIn_11 : decode cX7_isIn 11 = .ok (.goto 4, 3) := by decide +kernel
theorem dX7_isIn_14 : decode cX7_isIn 14 = .ok (.iconst 0, 1) := by decide +kernel
theorem dX7_isIn_15 : decode cX7_isIn 15 = .ok (.ireturn, 1) := by decide +kernel
def fX7_isIn (m : Md) (z1 : Int32) (z2 : Int32) : Int32 := (if (fX7_field m z1 5) = z2 then 1 else 0)
def sX7_isIn (m : Md) (z1 : Int32) (z2 : Int32) : Prop := ((sX7_field m z1 5) ∧ (((fX7_field m z1 5) = z2 → True) ∧ (¬ (fX7_field m z1 5) = z2 → True)))
set_option maxRecDepth 20000 in
theorem ctX7_isIn {l : Launch} {G : GM} {K : Nat → Option va_E} {h : List va_E} {m : Md} (hm : HM G K h m) (z1 : Int32) (z2 : Int32) (hs : sX7_isIn m z1 z2) : Ct l G mX7_isIn 2 0 0 [.ref (gz G + 221), .int z1, .int z2] h (fun v h1 => v = some (.int (fX7_isIn m z1 z2)) ∧ h1 = h) := by
  show Tr l G mX7_isIn 2 0 0 0 [(0, .ref (gz G + 221)), (1, .int z1), (2, .int z2)] [] h _
  unfold sX7_isIn at hs
  refine am_aload_n dX7_isIn_0 0 rfl ?_
  refine am_iload_n dX7_isIn_1 1 rfl ?_
  refine am_iconst (v := 5) dX7_isIn_2 (by decide) ?_
  obtain ⟨i1, hs⟩ := hs
  refine am_callV (As := [.int z1, .int 5]) (rest := []) dX7_isIn_3 kMX7_60 rfl (hmc221 (m := m) hm) rfl rfl (Nat.le_of_ble_eq_true rfl) (d2 := 1) (by decide) (k2 := 0) (Nat.zero_le _) (u2 := 0) (Nat.zero_le _) (Nat.le_of_ble_eq_true rfl) (ctX7_field (m := m) hm z1 5 i1) (fun v2 h3 q4 => ?_)
  obtain ⟨rfl, rfl⟩ := q4
  refine am_iload_n dX7_isIn_6 2 rfl ?_
  refine am_icmp_ne dX7_isIn_7 (by decide : ((7 : Nat) : Int) + (7) = ((14 : Nat) : Int)) (fun c5 => ?_) (fun c5 => ?_)
  · have hs := hs.2 c5
    refine am_iconst (v := 0) dX7_isIn_14 (by decide) ?_
    rw [show (fX7_isIn m z1 z2) = 0 from ifn c5 (rfl)]
    exact am_ireturn dX7_isIn_15 rfl rfl ⟨rfl, rfl⟩
  · have hs := hs.1 c5
    refine am_iconst (v := 1) dX7_isIn_10 (by decide) ?_
    refine am_goto dX7_isIn_11 (by decide : ((11 : Nat) : Int) + (4) = ((15 : Nat) : Int)) ?_
    rw [show (fX7_isIn m z1 z2) = 1 from ifp c5 (rfl)]
    exact am_ireturn dX7_isIn_15 rfl rfl ⟨rfl, rfl⟩

theorem dX7_shapeLength_0 : decode cX7_shapeLength 0 = .ok (.aload_n 0, 1) := by decide +kernel
theorem dX7_shapeLength_1 : decode cX7_shapeLength 1 = .ok (.getfield 23, 3) := by decide +kernel
theorem dX7_shapeLength_4 : decode cX7_shapeLength 4 = .ok (.bipush 28, 2) := by decide +kernel
theorem dX7_shapeLength_6 : decode cX7_shapeLength 6 = .ok (.iconst 2, 1) := by decide +kernel
theorem dX7_shapeLength_7 : decode cX7_shapeLength 7 = .ok (.iload_n 1, 1) := by decide +kernel
theorem dX7_shapeLength_8 : decode cX7_shapeLength 8 = .ok (.imul, 1) := by decide +kernel
theorem dX7_shapeLength_9 : decode cX7_shapeLength 9 = .ok (.iadd, 1) := by decide +kernel
theorem dX7_shapeLength_10 : decode cX7_shapeLength 10 = .ok (.iconst 1, 1) := by decide +kernel
theorem dX7_shapeLength_11 : decode cX7_shapeLength 11 = .ok (.iadd, 1) := by decide +kernel
theorem dX7_shapeLength_12 : decode cX7_shapeLength 12 = .ok (.iaload, 1) := by decide +kernel
theorem dX7_shapeLength_13 : decode cX7_shapeLength 13 = .ok (.ireturn, 1) := by decide +kernel
def fX7_shapeLength (m : Md) (z1 : Int32) : Int32 := ((m.2.1 (m.2.2)) (((28 : Int32) + ((2 : Int32) * z1)) + 1).toNatClampNeg)
def sX7_shapeLength (m : Md) (z1 : Int32) : Prop := (vp_in (((28 : Int32) + ((2 : Int32) * z1)) + 1) 146 ∧ True)
set_option maxRecDepth 20000 in
theorem ctX7_shapeLength {l : Launch} {G : GM} {K : Nat → Option va_E} {h : List va_E} {m : Md} (hm : HM G K h m) (z1 : Int32) (hs : sX7_shapeLength m z1) : Ct l G mX7_shapeLength 0 0 0 [.ref (gz G + 221), .int z1] h (fun v h1 => v = some (.int (fX7_shapeLength m z1)) ∧ h1 = h) := by
  show Tr l G mX7_shapeLength 0 0 0 0 [(0, .ref (gz G + 221)), (1, .int z1)] [] h _
  unfold sX7_shapeLength at hs
  refine am_aload_n dX7_shapeLength_0 0 rfl ?_
  refine am_get (v := .ref (gz G + (222 + (m.2.2)))) dX7_shapeLength_1 kGX7_23 (hmc221 (m := m) hm) rfl ?_
  refine am_bipush (v := 28) dX7_shapeLength_4 (by decide) ?_
  refine am_iconst (v := 2) dX7_shapeLength_6 (by decide) ?_
  refine am_iload_n dX7_shapeLength_7 1 rfl ?_
  refine am_imul dX7_shapeLength_8 ?_
  refine am_iadd dX7_shapeLength_9 ?_
  refine am_iconst (v := 1) dX7_shapeLength_10 (by decide) ?_
  refine am_iadd dX7_shapeLength_11 ?_
  obtain ⟨i1, hs⟩ := hs
  refine am_iald (f := (m.2.1 (m.2.2))) dX7_shapeLength_12 (hmN (m := m) hm) i1 ?_
  rw [show (fX7_shapeLength m z1) = ((m.2.1 (m.2.2)) (((28 : Int32) + ((2 : Int32) * z1)) + 1).toNatClampNeg) from rfl]
  exact am_ireturn dX7_shapeLength_13 rfl rfl ⟨rfl, rfl⟩

theorem dX7_limitOf_0 : decode cX7_limitOf 0 = .ok (.aload_n 0, 1) := by decide +kernel
theorem dX7_limitOf_1 : decode cX7_limitOf 1 = .ok (.getfield 23, 3) := by decide +kernel
theorem dX7_limitOf_4 : decode cX7_limitOf 4 = .ok (.bipush 10, 2) := by decide +kernel
theorem dX7_limitOf_6 : decode cX7_limitOf 6 = .ok (.iconst 3, 1) := by decide +kernel
theorem dX7_limitOf_7 : decode cX7_limitOf 7 = .ok (.aload_n 0, 1) := by decide +kernel
theorem dX7_limitOf_8 : decode cX7_limitOf 8 = .ok (.iload_n 1, 1) := by decide +kernel
theorem dX7_limitOf_9 : decode cX7_limitOf 9 = .ok (.iconst 0, 1) := by decide +kernel
theorem dX7_limitOf_10 : decode cX7_limitOf 10 = .ok (.invokevirtual 60, 3) := by decide +kernel
theorem dX7_limitOf_13 : decode cX7_limitOf 13 = .ok (.imul, 1) := by decide +kernel
theorem dX7_limitOf_14 : decode cX7_limitOf 14 = .ok (.iadd, 1) := by decide +kernel
theorem dX7_limitOf_15 : decode cX7_limitOf 15 = .ok (.iconst 1, 1) := by decide +kernel
theorem dX7_limitOf_16 : decode cX7_limitOf 16 = .ok (.iadd, 1) := by decide +kernel
theorem dX7_limitOf_17 : decode cX7_limitOf 17 = .ok (.iaload, 1) := by decide +kernel
theorem dX7_limitOf_18 : decode cX7_limitOf 18 = .ok (.istore_n 2, 1) := by decide +kernel
theorem dX7_limitOf_19 : decode cX7_limitOf 19 = .ok (.aload_n 0, 1) := by decide +kernel
theorem dX7_limitOf_20 : decode cX7_limitOf 20 = .ok (.iload_n 1, 1) := by decide +kernel
theorem dX7_limitOf_21 : decode cX7_limitOf 21 = .ok (.iconst 1, 1) := by decide +kernel
theorem dX7_limitOf_22 : decode cX7_limitOf 22 = .ok (.invokevirtual 60, 3) := by decide +kernel
theorem dX7_limitOf_25 : decode cX7_limitOf 25 = .ok (.istore_n 3, 1) := by decide +kernel
theorem dX7_limitOf_26 : decode cX7_limitOf 26 = .ok (.iload_n 3, 1) := by decide +kernel
theorem dX7_limitOf_27 : decode cX7_limitOf 27 = .ok (.ifCond .ne 7, 3) := by decide +kernel
theorem dX7_limitOf_30 : decode cX7_limitOf 30 = .ok (.iload_n 2, 1) := by decide +kernel
theorem dX7_limitOf_31 : decode cX7_limitOf 31 = .ok (.goto 23, 3) := by decide +kernel
theorem dX7_limitOf_34 : decode cX7_limitOf 34 = .ok (.iload_n 3, 1) := by decide +kernel
theorem dX7_limitOf_35 : decode cX7_limitOf 35 = .ok (.iconst 1, 1) := by decide +kernel
theorem dX7_limitOf_36 : decode cX7_limitOf 36 = .ok (.if_icmp .ne 10, 3) := by decide +kernel
theorem dX7_limitOf_39 : decode cX7_limitOf 39 = .ok (.iload_n 2, 1) := by decide +kernel
theorem dX7_limitOf_40 : decode cX7_limitOf 40 = .ok (.bipush 20, 2) := by decide +kernel
theorem dX7_limitOf_42 : decode cX7_limitOf 42 = .ok (.iadd, 1) := by decide +kernel
theorem dX7_limitOf_43 : decode cX7_limitOf 43 = .ok (.goto 11, 3) := by decide +kernel
theorem dX7_limitOf_46 : decode cX7_limitOf 46 = .ok (.iconst 1, 1) := by decide +kernel
theorem dX7_limitOf_47 : decode cX7_limitOf 47 = .ok (.iload_n 2, 1) := by decide +kernel
theorem dX7_limitOf_48 : decode cX7_limitOf 48 = .ok (.bipush 10, 2) := by decide +kernel
theorem dX7_limitOf_50 : decode cX7_limitOf 50 = .ok (.isub, 1) := by decide +kernel
theorem dX7_limitOf_51 : decode cX7_limitOf 51 = .ok (.invokestatic 63, 3) := by decide +kernel
theorem dX7_limitOf_54 : decode cX7_limitOf 54 = .ok (.ireturn, 1) := by decide +kernel
def fX7_limitOf (m : Md) (z1 : Int32) : Int32 := (if (fX7_field m z1 1) = 0 then ((m.2.1 (m.2.2)) (((10 : Int32) + ((3 : Int32) * (fX7_field m z1 0))) + 1).toNatClampNeg) else (if (fX7_field m z1 1) = 1 then (((m.2.1 (m.2.2)) (((10 : Int32) + ((3 : Int32) * (fX7_field m z1 0))) + 1).toNatClampNeg) + 20) else (imx 1 (((m.2.1 (m.2.2)) (((10 : Int32) + ((3 : Int32) * (fX7_field m z1 0))) + 1).toNatClampNeg) - 10))))
def sX7_limitOf (m : Md) (z1 : Int32) : Prop := ((sX7_field m z1 0) ∧ (vp_in (((10 : Int32) + ((3 : Int32) * (fX7_field m z1 0))) + 1) 146 ∧ ((sX7_field m z1 1) ∧ (((fX7_field m z1 1) = 0 → True) ∧ (¬ (fX7_field m z1 1) = 0 → (((fX7_field m z1 1) = 1 → True) ∧ (¬ (fX7_field m z1 1) = 1 → True)))))))
set_option maxRecDepth 20000 in
theorem ctX7_limitOf {l : Launch} {G : GM} {K : Nat → Option va_E} {h : List va_E} {m : Md} (hm : HM G K h m) (z1 : Int32) (hs : sX7_limitOf m z1) : Ct l G mX7_limitOf 2 0 0 [.ref (gz G + 221), .int z1] h (fun v h1 => v = some (.int (fX7_limitOf m z1)) ∧ h1 = h) := by
  show Tr l G mX7_limitOf 2 0 0 0 [(0, .ref (gz G + 221)), (1, .int z1)] [] h _
  unfold sX7_limitOf at hs
  refine am_aload_n dX7_limitOf_0 0 rfl ?_
  refine am_get (v := .ref (gz G + (222 + (m.2.2)))) dX7_limitOf_1 kGX7_23 (hmc221 (m := m) hm) rfl ?_
  refine am_bipush (v := 10) dX7_limitOf_4 (by decide) ?_
  refine am_iconst (v := 3) dX7_limitOf_6 (by decide) ?_
  refine am_aload_n dX7_limitOf_7 0 rfl ?_
  refine am_iload_n dX7_limitOf_8 1 rfl ?_
  refine am_iconst (v := 0) dX7_limitOf_9 (by decide) ?_
  obtain ⟨i1, hs⟩ := hs
  refine am_callV (As := [.int z1, .int 0]) (rest := [.int 3, .int 10, .ref (gz G + (222 + (m.2.2)))]) dX7_limitOf_10 kMX7_60 rfl (hmc221 (m := m) hm) rfl rfl (Nat.le_of_ble_eq_true rfl) (d2 := 1) (by decide) (k2 := 0) (Nat.zero_le _) (u2 := 0) (Nat.zero_le _) (Nat.le_of_ble_eq_true rfl) (ctX7_field (m := m) hm z1 0 i1) (fun v2 h3 q4 => ?_)
  obtain ⟨rfl, rfl⟩ := q4
  refine am_imul dX7_limitOf_13 ?_
  refine am_iadd dX7_limitOf_14 ?_
  refine am_iconst (v := 1) dX7_limitOf_15 (by decide) ?_
  refine am_iadd dX7_limitOf_16 ?_
  obtain ⟨i5, hs⟩ := hs
  refine am_iald (f := (m.2.1 (m.2.2))) dX7_limitOf_17 (hmN (m := m) hm) i5 ?_
  refine am_istore_n dX7_limitOf_18 (by decide) (lv' := [(2, .int ((m.2.1 (m.2.2)) (((10 : Int32) + ((3 : Int32) * (fX7_field m z1 0))) + 1).toNatClampNeg)), (0, .ref (gz G + 221)), (1, .int z1)]) rfl ?_
  refine am_aload_n dX7_limitOf_19 1 rfl ?_
  refine am_iload_n dX7_limitOf_20 2 rfl ?_
  refine am_iconst (v := 1) dX7_limitOf_21 (by decide) ?_
  obtain ⟨i6, hs⟩ := hs
  refine am_callV (As := [.int z1, .int 1]) (rest := []) dX7_limitOf_22 kMX7_60 rfl (hmc221 (m := m) hm) rfl rfl (Nat.le_of_ble_eq_true rfl) (d2 := 1) (by decide) (k2 := 0) (Nat.zero_le _) (u2 := 0) (Nat.zero_le _) (Nat.le_of_ble_eq_true rfl) (ctX7_field (m := m) hm z1 1 i6) (fun v7 h8 q9 => ?_)
  obtain ⟨rfl, rfl⟩ := q9
  refine am_istore_n dX7_limitOf_25 (by decide) (lv' := [(3, .int (fX7_field m z1 1)), (2, .int ((m.2.1 (m.2.2)) (((10 : Int32) + ((3 : Int32) * (fX7_field m z1 0))) + 1).toNatClampNeg)), (0, .ref (gz G + 221)), (1, .int z1)]) rfl ?_
  refine am_iload_n dX7_limitOf_26 0 rfl ?_
  refine am_if_ne dX7_limitOf_27 (by decide : ((27 : Nat) : Int) + (7) = ((34 : Nat) : Int)) (fun c10 => ?_) (fun c10 => ?_)
  · have hs := hs.2 c10
    refine am_iload_n dX7_limitOf_34 0 rfl ?_
    refine am_iconst (v := 1) dX7_limitOf_35 (by decide) ?_
    refine am_icmp_ne dX7_limitOf_36 (by decide : ((36 : Nat) : Int) + (10) = ((46 : Nat) : Int)) (fun c11 => ?_) (fun c11 => ?_)
    · have hs := hs.2 c11
      refine am_iconst (v := 1) dX7_limitOf_46 (by decide) ?_
      refine am_iload_n dX7_limitOf_47 1 rfl ?_
      refine am_bipush (v := 10) dX7_limitOf_48 (by decide) ?_
      refine am_isub dX7_limitOf_50 ?_
      refine am_mmax dX7_limitOf_51 kXX7_63 (Nat.le_of_ble_eq_true rfl) (by decide) ?_
      rw [show (fX7_limitOf m z1) = (imx 1 (((m.2.1 (m.2.2)) (((10 : Int32) + ((3 : Int32) * (fX7_field m z1 0))) + 1).toNatClampNeg) - 10)) from ifn c10 (ifn c11 (rfl))]
      exact am_ireturn dX7_limitOf_54 rfl rfl ⟨rfl, rfl⟩
    · have hs := hs.1 c11
      refine am_iload_n dX7_limitOf_39 1 rfl ?_
      refine am_bipush (v := 20) dX7_limitOf_40 (by decide) ?_
      refine am_iadd dX7_limitOf_42 ?_
      refine am_goto dX7_limitOf_43 (by decide : ((43 : Nat) : Int) + (11) = ((54 : Nat) : Int)) ?_
      rw [show (fX7_limitOf m z1) = (((m.2.1 (m.2.2)) (((10 : Int32) + ((3 : Int32) * (fX7_field m z1 0))) + 1).toNatClampNeg) + 20) from ifn c10 (ifp c11 (rfl))]
      exact am_ireturn dX7_limitOf_54 rfl rfl ⟨rfl, rfl⟩
  · have hs := hs.1 c10
    refine am_iload_n dX7_limitOf_30 1 rfl ?_
    refine am_goto dX7_limitOf_31 (by decide : ((31 : Nat) : Int) + (23) = ((54 : Nat) : Int)) ?_
    rw [show (fX7_limitOf m z1) = ((m.2.1 (m.2.2)) (((10 : Int32) + ((3 : Int32) * (fX7_field m z1 0))) + 1).toNatClampNeg) from ifp c10 (rfl)]
    exact am_ireturn dX7_limitOf_54 rfl rfl ⟨rfl, rfl⟩

theorem dX7_longestOf_0 : decode cX7_longestOf 0 = .ok (.aload_n 0, 1) := by decide +kernel
theorem dX7_longestOf_1 : decode cX7_longestOf 1 = .ok (.iload_n 1, 1) := by decide +kernel
theorem dX7_longestOf_2 : decode cX7_longestOf 2 = .ok (.iconst 3, 1) := by decide +kernel
theorem dX7_longestOf_3 : decode cX7_longestOf 3 = .ok (.invokevirtual 60, 3) := by decide +kernel
theorem dX7_longestOf_6 : decode cX7_longestOf 6 = .ok (.bipush 100, 2) := by decide +kernel
theorem dX7_longestOf_8 : decode cX7_longestOf 8 = .ok (.aload_n 0, 1) := by decide +kernel
theorem dX7_longestOf_9 : decode cX7_longestOf 9 = .ok (.iload_n 1, 1) := by decide +kernel
theorem dX7_longestOf_10 : decode cX7_longestOf 10 = .ok (.invokevirtual 68, 3) := by decide +kernel
theorem dX7_longestOf_13 : decode cX7_longestOf 13 = .ok (.iadd, 1) := by decide +kernel
theorem dX7_longestOf_14 : decode cX7_longestOf 14 = .ok (.imul, 1) := by decide +kernel
theorem dX7_longestOf_15 : decode cX7_longestOf 15 = .ok (.bipush 100, 2) := by decide +kernel
theorem dX7_longestOf_17 : decode cX7_longestOf 17 = .ok (.idiv, 1) := by decide +kernel
theorem dX7_longestOf_18 : decode cX7_longestOf 18 = .ok (.ireturn, 1) := by decide +kernel
def fX7_longestOf (m : Md) (z1 : Int32) : Int32 := (((fX7_field m z1 3) * ((100 : Int32) + (fX7_limitOf m z1))) / 100)
def sX7_longestOf (m : Md) (z1 : Int32) : Prop := ((sX7_field m z1 3) ∧ ((sX7_limitOf m z1) ∧ True))
set_option maxRecDepth 20000 in
theorem ctX7_longestOf {l : Launch} {G : GM} {K : Nat → Option va_E} {h : List va_E} {m : Md} (hm : HM G K h m) (z1 : Int32) (hs : sX7_longestOf m z1) : Ct l G mX7_longestOf 3 0 0 [.ref (gz G + 221), .int z1] h (fun v h1 => v = some (.int (fX7_longestOf m z1)) ∧ h1 = h) := by
  show Tr l G mX7_longestOf 3 0 0 0 [(0, .ref (gz G + 221)), (1, .int z1)] [] h _
  unfold sX7_longestOf at hs
  refine am_aload_n dX7_longestOf_0 0 rfl ?_
  refine am_iload_n dX7_longestOf_1 1 rfl ?_
  refine am_iconst (v := 3) dX7_longestOf_2 (by decide) ?_
  obtain ⟨i1, hs⟩ := hs
  refine am_callV (As := [.int z1, .int 3]) (rest := []) dX7_longestOf_3 kMX7_60 rfl (hmc221 (m := m) hm) rfl rfl (Nat.le_of_ble_eq_true rfl) (d2 := 1) (by decide) (k2 := 0) (Nat.zero_le _) (u2 := 0) (Nat.zero_le _) (Nat.le_of_ble_eq_true rfl) (ctX7_field (m := m) hm z1 3 i1) (fun v2 h3 q4 => ?_)
  obtain ⟨rfl, rfl⟩ := q4
  refine am_bipush (v := 100) dX7_longestOf_6 (by decide) ?_
  refine am_aload_n dX7_longestOf_8 0 rfl ?_
  refine am_iload_n dX7_longestOf_9 1 rfl ?_
  obtain ⟨i5, hs⟩ := hs
  refine am_callV (As := [.int z1]) (rest := [.int 100, .int (fX7_field m z1 3)]) dX7_longestOf_10 kMX7_68 rfl (hmc221 (m := m) hm) rfl rfl (Nat.le_of_ble_eq_true rfl) (d2 := 2) (by decide) (k2 := 0) (Nat.zero_le _) (u2 := 0) (Nat.zero_le _) (Nat.le_of_ble_eq_true rfl) (ctX7_limitOf (m := m) hm z1 i5) (fun v6 h7 q8 => ?_)
  obtain ⟨rfl, rfl⟩ := q8
  refine am_iadd dX7_longestOf_13 ?_
  refine am_imul dX7_longestOf_14 ?_
  refine am_bipush (v := 100) dX7_longestOf_15 (by decide) ?_
  refine am_idiv dX7_longestOf_17 (by decide) ?_
  rw [show (fX7_longestOf m z1) = (((fX7_field m z1 3) * ((100 : Int32) + (fX7_limitOf m z1))) / 100) from rfl]
  exact am_ireturn dX7_longestOf_18 rfl rfl ⟨rfl, rfl⟩

theorem dX7_wouldTear_0 : decode cX7_wouldTear 0 = .ok (.aload_n 0, 1) := by decide +kernel
theorem dX7_wouldTear_1 : decode cX7_wouldTear 1 = .ok (.iload_n 2, 1) := by decide +kernel
theorem dX7_wouldTear_2 : decode cX7_wouldTear 2 = .ok (.invokevirtual 72, 3) := by decide +kernel
theorem dX7_wouldTear_5 : decode cX7_wouldTear 5 = .ok (.aload_n 0, 1) := by decide +kernel
theorem dX7_wouldTear_6 : decode cX7_wouldTear 6 = .ok (.iload_n 1, 1) := by decide +kernel
theorem dX7_wouldTear_7 : decode cX7_wouldTear 7 = .ok (.invokevirtual 75, 3) := by decide +kernel
theorem dX7_wouldTear_10 : decode cX7_wouldTear 10 = .ok (.if_icmp .le 7, 3) := by decide +kernel
theorem dX7_wouldTear_13 : decode cX7_wouldTear 13 = .ok (.iconst 1, 1) := by decide +kernel
theorem dX7_wouldTear_14 : decode cX7_wouldTear 14 = .ok (.goto 4, 3) := by decide +kernel
theorem dX7_wouldTear_17 : decode cX7_wouldTear 17 = .ok (.iconst 0, 1) := by decide +kernel
theorem dX7_wouldTear_18 : decode cX7_wouldTear 18 = .ok (.ireturn, 1) := by decide +kernel
def fX7_wouldTear (m : Md) (z1 : Int32) (z2 : Int32) : Int32 := (if (fX7_shapeLength m z2) ≤ (fX7_longestOf m z1) then 0 else 1)
def sX7_wouldTear (m : Md) (z1 : Int32) (z2 : Int32) : Prop := ((sX7_shapeLength m z2) ∧ ((sX7_longestOf m z1) ∧ (((fX7_shapeLength m z2) ≤ (fX7_longestOf m z1) → True) ∧ (¬ (fX7_shapeLength m z2) ≤ (fX7_longestOf m z1) → True))))
set_option maxRecDepth 20000 in
theorem ctX7_wouldTear {l : Launch} {G : GM} {K : Nat → Option va_E} {h : List va_E} {m : Md} (hm : HM G K h m) (z1 : Int32) (z2 : Int32) (hs : sX7_wouldTear m z1 z2) : Ct l G mX7_wouldTear 4 0 0 [.ref (gz G + 221), .int z1, .int z2] h (fun v h1 => v = some (.int (fX7_wouldTear m z1 z2)) ∧ h1 = h) := by
  show Tr l G mX7_wouldTear 4 0 0 0 [(0, .ref (gz G + 221)), (1, .int z1), (2, .int z2)] [] h _
  unfold sX7_wouldTear at hs
  refine am_aload_n dX7_wouldTear_0 0 rfl ?_
  refine am_iload_n dX7_wouldTear_1 2 rfl ?_
  obtain ⟨i1, hs⟩ := hs
  refine am_callV (As := [.int z2]) (rest := []) dX7_wouldTear_2 kMX7_72 rfl (hmc221 (m := m) hm) rfl rfl (Nat.le_of_ble_eq_true rfl) (d2 := 0) (by decide) (k2 := 0) (Nat.zero_le _) (u2 := 0) (Nat.zero_le _) (Nat.le_of_ble_eq_true rfl) (ctX7_shapeLength (m := m) hm z2 i1) (fun v2 h3 q4 => ?_)
  obtain ⟨rfl, rfl⟩ := q4
  refine am_aload_n dX7_wouldTear_5 0 rfl ?_
  refine am_iload_n dX7_wouldTear_6 1 rfl ?_
  obtain ⟨i5, hs⟩ := hs
  refine am_callV (As := [.int z1]) (rest := [.int (fX7_shapeLength m z2)]) dX7_wouldTear_7 kMX7_75 rfl (hmc221 (m := m) hm) rfl rfl (Nat.le_of_ble_eq_true rfl) (d2 := 3) (by decide) (k2 := 0) (Nat.zero_le _) (u2 := 0) (Nat.zero_le _) (Nat.le_of_ble_eq_true rfl) (ctX7_longestOf (m := m) hm z1 i5) (fun v6 h7 q8 => ?_)
  obtain ⟨rfl, rfl⟩ := q8
  refine am_icmp_le dX7_wouldTear_10 (by decide : ((10 : Nat) : Int) + (7) = ((17 : Nat) : Int)) (fun c9 => ?_) (fun c9 => ?_)
  · have hs := hs.1 c9
    refine am_iconst (v := 0) dX7_wouldTear_17 (by decide) ?_
    rw [show (fX7_wouldTear m z1 z2) = 0 from ifp c9 (rfl)]
    exact am_ireturn dX7_wouldTear_18 rfl rfl ⟨rfl, rfl⟩
  · have hs := hs.2 c9
    refine am_iconst (v := 1) dX7_wouldTear_13 (by decide) ?_
    refine am_goto dX7_wouldTear_14 (by decide : ((14 : Nat) : Int) + (4) = ((18 : Nat) : Int)) ?_
    rw [show (fX7_wouldTear m z1 z2) = 1 from ifn c9 (rfl)]
    exact am_ireturn dX7_wouldTear_18 rfl rfl ⟨rfl, rfl⟩

theorem dX7_lengthOn_0 : decode cX7_lengthOn 0 = .ok (.aload_n 0, 1) := by decide +kernel
theorem dX7_lengthOn_1 : decode cX7_lengthOn 1 = .ok (.iload_n 1, 1) := by decide +kernel
theorem dX7_lengthOn_2 : decode cX7_lengthOn 2 = .ok (.iconst 3, 1) := by decide +kernel
theorem dX7_lengthOn_3 : decode cX7_lengthOn 3 = .ok (.invokevirtual 60, 3) := by decide +kernel
theorem dX7_lengthOn_6 : decode cX7_lengthOn 6 = .ok (.istore_n 3, 1) := by decide +kernel
theorem dX7_lengthOn_7 : decode cX7_lengthOn 7 = .ok (.iload_n 3, 1) := by decide +kernel
theorem dX7_lengthOn_8 : decode cX7_lengthOn 8 = .ok (.aload_n 0, 1) := by decide +kernel
theorem dX7_lengthOn_9 : decode cX7_lengthOn 9 = .ok (.iload_n 2, 1) := by decide +kernel
theorem dX7_lengthOn_10 : decode cX7_lengthOn 10 = .ok (.invokevirtual 72, 3) := by decide +kernel
theorem dX7_lengthOn_13 : decode cX7_lengthOn 13 = .ok (.iload_n 3, 1) := by decide +kernel
theorem dX7_lengthOn_14 : decode cX7_lengthOn 14 = .ok (.isub, 1) := by decide +kernel
theorem dX7_lengthOn_15 : decode cX7_lengthOn 15 = .ok (.aload_n 0, 1) := by decide +kernel
theorem dX7_lengthOn_16 : decode cX7_lengthOn 16 = .ok (.getfield 23, 3) := by decide +kernel
theorem dX7_lengthOn_19 : decode cX7_lengthOn 19 = .ok (.iconst 2, 1) := by decide +kernel
theorem dX7_lengthOn_20 : decode cX7_lengthOn 20 = .ok (.iaload, 1) := by decide +kernel
theorem dX7_lengthOn_21 : decode cX7_lengthOn 21 = .ok (.imul, 1) := by decide +kernel
theorem dX7_lengthOn_22 : decode cX7_lengthOn 22 = .ok (.bipush 100, 2) := by decide +kernel
theorem dX7_lengthOn_24 : decode cX7_lengthOn 24 = .ok (.idiv, 1) := by decide +kernel
theorem dX7_lengthOn_25 : decode cX7_lengthOn 25 = .ok (.iadd, 1) := by decide +kernel
theorem dX7_lengthOn_26 : decode cX7_lengthOn 26 = .ok (.ireturn, 1) := by decide +kernel
def fX7_lengthOn (m : Md) (z1 : Int32) (z2 : Int32) : Int32 := ((fX7_field m z1 3) + ((((fX7_shapeLength m z2) - (fX7_field m z1 3)) * ((m.2.1 (m.2.2)) 2)) / 100))
def sX7_lengthOn (m : Md) (z1 : Int32) (z2 : Int32) : Prop := ((sX7_field m z1 3) ∧ ((sX7_shapeLength m z2) ∧ True))
set_option maxRecDepth 20000 in
theorem ctX7_lengthOn {l : Launch} {G : GM} {K : Nat → Option va_E} {h : List va_E} {m : Md} (hm : HM G K h m) (z1 : Int32) (z2 : Int32) (hs : sX7_lengthOn m z1 z2) : Ct l G mX7_lengthOn 2 0 0 [.ref (gz G + 221), .int z1, .int z2] h (fun v h1 => v = some (.int (fX7_lengthOn m z1 z2)) ∧ h1 = h) := by
  show Tr l G mX7_lengthOn 2 0 0 0 [(0, .ref (gz G + 221)), (1, .int z1), (2, .int z2)] [] h _
  unfold sX7_lengthOn at hs
  refine am_aload_n dX7_lengthOn_0 0 rfl ?_
  refine am_iload_n dX7_lengthOn_1 1 rfl ?_
  refine am_iconst (v := 3) dX7_lengthOn_2 (by decide) ?_
  obtain ⟨i1, hs⟩ := hs
  refine am_callV (As := [.int z1, .int 3]) (rest := []) dX7_lengthOn_3 kMX7_60 rfl (hmc221 (m := m) hm) rfl rfl (Nat.le_of_ble_eq_true rfl) (d2 := 1) (by decide) (k2 := 0) (Nat.zero_le _) (u2 := 0) (Nat.zero_le _) (Nat.le_of_ble_eq_true rfl) (ctX7_field (m := m) hm z1 3 i1) (fun v2 h3 q4 => ?_)
  obtain ⟨rfl, rfl⟩ := q4
  refine am_istore_n dX7_lengthOn_6 (by decide) (lv' := [(3, .int (fX7_field m z1 3)), (0, .ref (gz G + 221)), (1, .int z1), (2, .int z2)]) rfl ?_
  refine am_iload_n dX7_lengthOn_7 0 rfl ?_
  refine am_aload_n dX7_lengthOn_8 1 rfl ?_
  refine am_iload_n dX7_lengthOn_9 3 rfl ?_
  obtain ⟨i5, hs⟩ := hs
  refine am_callV (As := [.int z2]) (rest := [.int (fX7_field m z1 3)]) dX7_lengthOn_10 kMX7_72 rfl (hmc221 (m := m) hm) rfl rfl (Nat.le_of_ble_eq_true rfl) (d2 := 0) (by decide) (k2 := 0) (Nat.zero_le _) (u2 := 0) (Nat.zero_le _) (Nat.le_of_ble_eq_true rfl) (ctX7_shapeLength (m := m) hm z2 i5) (fun v6 h7 q8 => ?_)
  obtain ⟨rfl, rfl⟩ := q8
  refine am_iload_n dX7_lengthOn_13 0 rfl ?_
  refine am_isub dX7_lengthOn_14 ?_
  refine am_aload_n dX7_lengthOn_15 1 rfl ?_
  refine am_get (v := .ref (gz G + (222 + (m.2.2)))) dX7_lengthOn_16 kGX7_23 (hmc221 (m := m) hm) rfl ?_
  refine am_iconst (v := 2) dX7_lengthOn_19 (by decide) ?_
  refine am_iald (f := (m.2.1 (m.2.2))) dX7_lengthOn_20 (hmN (m := m) hm) (vp_lit (by decide)) ?_
  rw [tl2]
  refine am_imul dX7_lengthOn_21 ?_
  refine am_bipush (v := 100) dX7_lengthOn_22 (by decide) ?_
  refine am_idiv dX7_lengthOn_24 (by decide) ?_
  refine am_iadd dX7_lengthOn_25 ?_
  rw [show (fX7_lengthOn m z1 z2) = ((fX7_field m z1 3) + ((((fX7_shapeLength m z2) - (fX7_field m z1 3)) * ((m.2.1 (m.2.2)) 2)) / 100)) from rfl]
  exact am_ireturn dX7_lengthOn_26 rfl rfl ⟨rfl, rfl⟩

theorem dX7_put_0 : decode cX7_put 0 = .ok (.aload_n 0, 1) := by decide +kernel
theorem dX7_put_1 : decode cX7_put 1 = .ok (.iload_n 1, 1) := by decide +kernel
theorem dX7_put_2 : decode cX7_put 2 = .ok (.iload_n 2, 1) := by decide +kernel
theorem dX7_put_3 : decode cX7_put 3 = .ok (.invokevirtual 78, 3) := by decide +kernel
theorem dX7_put_6 : decode cX7_put 6 = .ok (.ifCond .eq 16, 3) := by decide +kernel
theorem dX7_put_9 : decode cX7_put 9 = .ok (.aload_n 0, 1) := by decide +kernel
theorem dX7_put_10 : decode cX7_put 10 = .ok (.getfield 23, 3) := by decide +kernel
theorem dX7_put_13 : decode cX7_put 13 = .ok (.iload_n 1, 1) := by decide +kernel
theorem dX7_put_14 : decode cX7_put 14 = .ok (.iconst 5, 1) := by decide +kernel
theorem dX7_put_15 : decode cX7_put 15 = .ok (.invokestatic 52, 3) := by decide +kernel
theorem dX7_put_18 : decode cX7_put 18 = .ok (.iconst 2, 1) := by decide +kernel
theorem dX7_put_19 : decode cX7_put 19 = .ok (.iastore, 1) := by decide +kernel
theorem dX7_put_20 : decode cX7_put 20 = .ok (.iconst 0, 1) := by decide +kernel
theorem dX7_put_21 : decode cX7_put 21 = .ok (.ireturn, 1) := by decide +kernel
theorem dX7_put_22 : decode cX7_put 22 = .ok (.aload_n 0, 1) := by decide +kernel
theorem dX7_put_23 : decode cX7_put 23 = .ok (.getfield 23, 3) := by decide +kernel
theorem dX7_put_26 : decode cX7_put 26 = .ok (.iload_n 1, 1) := by decide +kernel
theorem dX7_put_27 : decode cX7_put 27 = .ok (.iconst 3, 1) := by decide +kernel
theorem dX7_put_28 : decode cX7_put 28 = .ok (.invokestatic 52, 3) := by decide +kernel
theorem dX7_put_31 : decode cX7_put 31 = .ok (.aload_n 0, 1) := by decide +kernel
theorem dX7_put_32 : decode cX7_put 32 = .ok (.iload_n 1, 1) := by decide +kernel
theorem dX7_put_33 : decode cX7_put 33 = .ok (.iload_n 2, 1) := by decide +kernel
theorem dX7_put_34 : decode cX7_put 34 = .ok (.invokevirtual 82, 3) := by decide +kernel
theorem dX7_put_37 : decode cX7_put 37 = .ok (.iastore, 1) := by decide +kernel
theorem dX7_put_38 : decode cX7_put 38 = .ok (.aload_n 0, 1) := by decide +kernel
theorem dX7_put_39 : decode cX7_put 39 = .ok (.getfield 23, 3) := by decide +kernel
theorem dX7_put_42 : decode cX7_put 42 = .ok (.iload_n 1, 1) := by decide +kernel
theorem dX7_put_43 : decode cX7_put 43 = .ok (.iconst 5, 1) := by decide +kernel
theorem dX7_put_44 : decode cX7_put 44 = .ok (.invokestatic 52, 3) := by decide +kernel
theorem dX7_put_47 : decode cX7_put 47 = .ok (.iconst 1, 1) := by decide +kernel
theorem dX7_put_48 : decode cX7_put 48 = .ok (.iastore, 1) := by decide +kernel
theorem dX7_put_49 : decode cX7_put 49 = .ok (.iconst 1, 1) := by decide +kernel
theorem dX7_put_50 : decode cX7_put 50 = .ok (.ireturn, 1) := by decide +kernel
def fX7_put (m : Md) (z1 : Int32) (z2 : Int32) : Int32 × Md := (if (fX7_wouldTear m z1 z2) = 0 then (bnd (mA m (m.2.2) (upd (m.2.1 (m.2.2)) (fX7_at z1 3).toNatClampNeg (fX7_lengthOn m z1 z2))) (fun r15 => (bnd (mA r15 (r15.2.2) (upd (r15.2.1 (r15.2.2)) (fX7_at z1 5).toNatClampNeg 1)) (fun r23 => (1, r23))))) else (bnd (mA m (m.2.2) (upd (m.2.1 (m.2.2)) (fX7_at z1 5).toNatClampNeg 2)) (fun r31 => (0, r31))))
def sX7_put (m : Md) (z1 : Int32) (z2 : Int32) : Prop := ((sX7_wouldTear m z1 z2) ∧ (((fX7_wouldTear m z1 z2) = 0 → ((sX7_lengthOn m z1 z2) ∧ (vp_in (fX7_at z1 3) 146 ∧ (bnd (mA m (m.2.2) (upd (m.2.1 (m.2.2)) (fX7_at z1 3).toNatClampNeg (fX7_lengthOn m z1 z2))) (fun r15 => (vp_in (fX7_at z1 5) 146 ∧ (bnd (mA r15 (r15.2.2) (upd (r15.2.1 (r15.2.2)) (fX7_at z1 5).toNatClampNeg 1)) (fun r23 => True)))))))) ∧ (¬ (fX7_wouldTear m z1 z2) = 0 → (vp_in (fX7_at z1 5) 146 ∧ (bnd (mA m (m.2.2) (upd (m.2.1 (m.2.2)) (fX7_at z1 5).toNatClampNeg 2)) (fun r31 => True))))))
set_option maxRecDepth 20000 in
theorem ctX7_put {l : Launch} {G : GM} {K : Nat → Option va_E} {h : List va_E} {m : Md} (hm : HM G K h m) (z1 : Int32) (z2 : Int32) (hs : sX7_put m z1 z2) : Ct l G mX7_put 5 0 0 [.ref (gz G + 221), .int z1, .int z2] h (fun v h1 => ∃ r, (fX7_put m z1 z2) = r ∧ v = some (.int r.1) ∧ HM G K h1 r.2) := by
  show Tr l G mX7_put 5 0 0 0 [(0, .ref (gz G + 221)), (1, .int z1), (2, .int z2)] [] h _
  unfold sX7_put at hs
  refine am_aload_n dX7_put_0 0 rfl ?_
  refine am_iload_n dX7_put_1 1 rfl ?_
  refine am_iload_n dX7_put_2 2 rfl ?_
  obtain ⟨i1, hs⟩ := hs
  refine am_callV (As := [.int z1, .int z2]) (rest := []) dX7_put_3 kMX7_78 rfl (hmc221 (m := m) hm) rfl rfl (Nat.le_of_ble_eq_true rfl) (d2 := 4) (by decide) (k2 := 0) (Nat.zero_le _) (u2 := 0) (Nat.zero_le _) (Nat.le_of_ble_eq_true rfl) (ctX7_wouldTear (m := m) hm z1 z2 i1) (fun v2 h3 q4 => ?_)
  obtain ⟨rfl, rfl⟩ := q4
  refine am_if_eq dX7_put_6 (by decide : ((6 : Nat) : Int) + (16) = ((22 : Nat) : Int)) (fun c5 => ?_) (fun c5 => ?_)
  · have hs := hs.1 c5
    refine am_aload_n dX7_put_22 0 rfl ?_
    refine am_get (v := .ref (gz G + (222 + (m.2.2)))) dX7_put_23 kGX7_23 (hmc221 (m := m) hm) rfl ?_
    refine am_iload_n dX7_put_26 1 rfl ?_
    refine am_iconst (v := 3) dX7_put_27 (by decide) ?_
    refine am_callS (As := [.int z1, .int 3]) (rest := [.ref (gz G + (222 + (m.2.2)))]) dX7_put_28 kMX7_52 rfl  rfl (Nat.le_of_ble_eq_true rfl) (d2 := 0) (by decide) (k2 := 0) (Nat.zero_le _) (u2 := 0) (Nat.zero_le _) (Nat.le_of_ble_eq_true rfl) (ctX7_at  z1 3 ) (fun v6 h7 q8 => ?_)
    obtain ⟨rfl, rfl⟩ := q8
    refine am_aload_n dX7_put_31 0 rfl ?_
    refine am_iload_n dX7_put_32 1 rfl ?_
    refine am_iload_n dX7_put_33 2 rfl ?_
    obtain ⟨i9, hs⟩ := hs
    refine am_callV (As := [.int z1, .int z2]) (rest := [.int (fX7_at z1 3), .ref (gz G + (222 + (m.2.2)))]) dX7_put_34 kMX7_82 rfl (hmc221 (m := m) hm) rfl rfl (Nat.le_of_ble_eq_true rfl) (d2 := 2) (by decide) (k2 := 0) (Nat.zero_le _) (u2 := 0) (Nat.zero_le _) (Nat.le_of_ble_eq_true rfl) (ctX7_lengthOn (m := m) hm z1 z2 i9) (fun v10 h11 q12 => ?_)
    obtain ⟨rfl, rfl⟩ := q12
    obtain ⟨i13, hs⟩ := hs
    refine am_iast (f := (m.2.1 (m.2.2))) dX7_put_37 (hmN (m := m) hm) i13 ?_
    have w14 := hmNw hm (upd (m.2.1 (m.2.2)) (fX7_at z1 3).toNatClampNeg (fX7_lengthOn m z1 z2))
    obtain ⟨r15, e16⟩ : ∃ x, (mA m (m.2.2) (upd (m.2.1 (m.2.2)) (fX7_at z1 3).toNatClampNeg (fX7_lengthOn m z1 z2))) = x := ⟨_, rfl⟩
    have w17 := hm_eq e16 w14
    have hs := bnd_p e16 hs
    refine am_aload_n dX7_put_38 0 rfl ?_
    refine am_get (v := .ref (gz G + (222 + (r15.2.2)))) dX7_put_39 kGX7_23 (hmc221 (m := r15) w17) rfl ?_
    refine am_iload_n dX7_put_42 1 rfl ?_
    refine am_iconst (v := 5) dX7_put_43 (by decide) ?_
    refine am_callS (As := [.int z1, .int 5]) (rest := [.ref (gz G + (222 + (r15.2.2)))]) dX7_put_44 kMX7_52 rfl  rfl (Nat.le_of_ble_eq_true rfl) (d2 := 0) (by decide) (k2 := 0) (Nat.zero_le _) (u2 := 0) (Nat.zero_le _) (Nat.le_of_ble_eq_true rfl) (ctX7_at  z1 5 ) (fun v18 h19 q20 => ?_)
    obtain ⟨rfl, rfl⟩ := q20
    refine am_iconst (v := 1) dX7_put_47 (by decide) ?_
    obtain ⟨i21, hs⟩ := hs
    refine am_iast (f := (r15.2.1 (r15.2.2))) dX7_put_48 (hmN (m := r15) w17) i21 ?_
    have w22 := hmNw w17 (upd (r15.2.1 (r15.2.2)) (fX7_at z1 5).toNatClampNeg 1)
    obtain ⟨r23, e24⟩ : ∃ x, (mA r15 (r15.2.2) (upd (r15.2.1 (r15.2.2)) (fX7_at z1 5).toNatClampNeg 1)) = x := ⟨_, rfl⟩
    have w25 := hm_eq e24 w22
    have hs := bnd_p e24 hs
    refine am_iconst (v := 1) dX7_put_49 (by decide) ?_
    exact am_ireturn dX7_put_50 rfl rfl ⟨_, ifp c5 (bnd_eq e16 (bnd_eq e24 (rfl))), rfl, w25⟩
  · have hs := hs.2 c5
    refine am_aload_n dX7_put_9 0 rfl ?_
    refine am_get (v := .ref (gz G + (222 + (m.2.2)))) dX7_put_10 kGX7_23 (hmc221 (m := m) hm) rfl ?_
    refine am_iload_n dX7_put_13 1 rfl ?_
    refine am_iconst (v := 5) dX7_put_14 (by decide) ?_
    refine am_callS (As := [.int z1, .int 5]) (rest := [.ref (gz G + (222 + (m.2.2)))]) dX7_put_15 kMX7_52 rfl  rfl (Nat.le_of_ble_eq_true rfl) (d2 := 0) (by decide) (k2 := 0) (Nat.zero_le _) (u2 := 0) (Nat.zero_le _) (Nat.le_of_ble_eq_true rfl) (ctX7_at  z1 5 ) (fun v26 h27 q28 => ?_)
    obtain ⟨rfl, rfl⟩ := q28
    refine am_iconst (v := 2) dX7_put_18 (by decide) ?_
    obtain ⟨i29, hs⟩ := hs
    refine am_iast (f := (m.2.1 (m.2.2))) dX7_put_19 (hmN (m := m) hm) i29 ?_
    have w30 := hmNw hm (upd (m.2.1 (m.2.2)) (fX7_at z1 5).toNatClampNeg 2)
    obtain ⟨r31, e32⟩ : ∃ x, (mA m (m.2.2) (upd (m.2.1 (m.2.2)) (fX7_at z1 5).toNatClampNeg 2)) = x := ⟨_, rfl⟩
    have w33 := hm_eq e32 w30
    have hs := bnd_p e32 hs
    refine am_iconst (v := 0) dX7_put_20 (by decide) ?_
    exact am_ireturn dX7_put_21 rfl rfl ⟨_, ifn c5 (bnd_eq e32 (rfl)), rfl, w33⟩

theorem dX7_putAll_0 : decode cX7_putAll 0 = .ok (.iconst 0, 1) := by decide +kernel
theorem dX7_putAll_1 : decode cX7_putAll 1 = .ok (.istore_n 2, 1) := by decide +kernel
theorem dX7_putAll_2 : decode cX7_putAll 2 = .ok (.iconst 0, 1) := by decide +kernel
theorem dX7_putAll_3 : decode cX7_putAll 3 = .ok (.istore_n 3, 1) := by decide +kernel
theorem dX7_putAll_4 : decode cX7_putAll 4 = .ok (.iload_n 3, 1) := by decide +kernel
theorem dX7_putAll_5 : decode cX7_putAll 5 = .ok (.aload_n 0, 1) := by decide +kernel
theorem dX7_putAll_6 : decode cX7_putAll 6 = .ok (.invokevirtual 85, 3) := by decide +kernel
theorem dX7_putAll_9 : decode cX7_putAll 9 = .ok (.if_icmp .ge 30, 3) := by decide +kernel
theorem dX7_putAll_12 : decode cX7_putAll 12 = .ok (.aload_n 0, 1) := by decide +kernel
theorem dX7_putAll_13 : decode cX7_putAll 13 = .ok (.iload_n 3, 1) := by decide +kernel
theorem dX7_putAll_14 : decode cX7_putAll 14 = .ok (.iconst 0, 1) := by decide +kernel
theorem dX7_putAll_15 : decode cX7_putAll 15 = .ok (.invokevirtual 89, 3) := by decide +kernel
theorem dX7_putAll_18 : decode cX7_putAll 18 = .ok (.ifCond .eq 15, 3) := by decide +kernel
theorem dX7_putAll_21 : decode cX7_putAll 21 = .ok (.aload_n 0, 1) := by decide +kernel
theorem dX7_putAll_22 : decode cX7_putAll 22 = .ok (.iload_n 3, 1) := by decide +kernel
theorem dX7_putAll_23 : decode cX7_putAll 23 = .ok (.iload_n 1, 1) := by decide +kernel
theorem dX7_putAll_24 : decode cX7_putAll 24 = .ok (.invokevirtual 92, 3) := by decide +kernel
theorem dX7_putAll_27 : decode cX7_putAll 27 = .ok (.ifCond .eq 6, 3) := by decide +kernel
theorem dX7_putAll_30 : decode cX7_putAll 30 = .ok (.iinc 2 1, 3) := by decide +kernel
theorem dX7_putAll_33 : decode cX7_putAll 33 = .ok (.iinc 3 1, 3) := by decide +kernel
theorem dX7_putAll_36 : decode cX7_putAll 36 = .ok (.goto (-32), 3) := by decide +kernel
theorem dX7_putAll_39 : decode cX7_putAll 39 = .ok (.iload_n 2, 1) := by decide +kernel
theorem dX7_putAll_40 : decode cX7_putAll 40 = .ok (.ireturn, 1) := by decide +kernel
def fX7_putAll_4 (z1 : Int32)  : Nat → Int32 → Int32 → Md → Int32 × Int32 × Md
  | 0, x3, x2, y => (x3, x2, y)
  | fu + 1, x3, x2, y => (if (fX7_count y ) ≤ x3 then (x3, x2, y) else (if (fX7_isIn y x3 0) = 0 then (fX7_putAll_4 z1   fu (x3 + 1) x2 y) else (bnd (fX7_put y x3 z1) (fun r14 => (if r14.1 = 0 then (fX7_putAll_4 z1   fu (x3 + 1) x2 r14.2) else (fX7_putAll_4 z1   fu (x3 + 1) (x2 + 1) r14.2))))))
def sX7_putAll_4 (z1 : Int32)  : Nat → Int32 → Int32 → Md → Prop
  | 0, _, _, _ => True
  | fu + 1, x3, x2, y => (((fX7_count y ) ≤ x3 → True) ∧ (¬ (fX7_count y ) ≤ x3 → ((sX7_isIn y x3 0) ∧ (((fX7_isIn y x3 0) = 0 → (sX7_putAll_4 z1   fu (x3 + 1) x2 y)) ∧ (¬ (fX7_isIn y x3 0) = 0 → ((sX7_put y x3 z1) ∧ (bnd (fX7_put y x3 z1) (fun r14 => ((r14.1 = 0 → (sX7_putAll_4 z1   fu (x3 + 1) x2 r14.2)) ∧ (¬ r14.1 = 0 → (sX7_putAll_4 z1   fu (x3 + 1) (x2 + 1) r14.2)))))))))))
set_option maxRecDepth 20000 in
theorem wX7_putAll_4 {l : Launch} {G : GM} {K : Nat → Option va_E} (z1 : Int32)   {Q : Option Value → List va_E → Prop} : ∀ (fu : Nat) (x3 x2 : Int32) (y : Md) (iv : ivU 2147483647 x3 fu) (hs : sX7_putAll_4 z1   fu x3 x2 y) {h : List va_E} (gy : HM G K h y) (kx : ∀ (h1 : List va_E) (r : Int32 × Int32 × Md), (fX7_putAll_4 z1   fu x3 x2 y) = r → HM G K h1 r.2.2 → Tr l G mX7_putAll 6 0 0 39 [(3, .int r.1), (2, .int r.2.1), (0, .ref (gz G + 221)), (1, .int z1)] [] h1 Q), Tr l G mX7_putAll 6 0 0 4 [(3, .int x3), (2, .int x2), (0, .ref (gz G + 221)), (1, .int z1)] [] h Q := by
  intro fu
  induction fu with
  | zero => intro x3 x2 y iv; intros; exact absurd iv ivU_0
  | succ fu ih =>
    intro x3 x2 y iv hs  h gy  kx
    rw [sX7_putAll_4] at hs
    refine am_iload_n dX7_putAll_4 0 rfl ?_
    refine am_aload_n dX7_putAll_5 2 rfl ?_
    refine am_callV (As := []) (rest := [.int x3]) dX7_putAll_6 kMX7_85 rfl (hmc221 (m := y) gy) rfl rfl (Nat.le_of_ble_eq_true rfl) (d2 := 0) (by decide) (k2 := 0) (Nat.zero_le _) (u2 := 0) (Nat.zero_le _) (Nat.le_of_ble_eq_true rfl) (ctX7_count (m := y) gy  ) (fun v1 h2 q3 => ?_)
    obtain ⟨rfl, rfl⟩ := q3
    refine am_icmp_ge dX7_putAll_9 (by decide : ((9 : Nat) : Int) + (30) = ((39 : Nat) : Int)) (fun c4 => ?_) (fun c4 => ?_)
    · have hs := hs.1 c4
      exact kx _ _ (ifp c4 (rfl)) gy 
    · have hs := hs.2 c4
      refine am_aload_n dX7_putAll_12 2 rfl ?_
      refine am_iload_n dX7_putAll_13 0 rfl ?_
      refine am_iconst (v := 0) dX7_putAll_14 (by decide) ?_
      obtain ⟨i5, hs⟩ := hs
      refine am_callV (As := [.int x3, .int 0]) (rest := []) dX7_putAll_15 kMX7_89 rfl (hmc221 (m := y) gy) rfl rfl (Nat.le_of_ble_eq_true rfl) (d2 := 2) (by decide) (k2 := 0) (Nat.zero_le _) (u2 := 0) (Nat.zero_le _) (Nat.le_of_ble_eq_true rfl) (ctX7_isIn (m := y) gy x3 0 i5) (fun v6 h7 q8 => ?_)
      obtain ⟨rfl, rfl⟩ := q8
      refine am_if_eq dX7_putAll_18 (by decide : ((18 : Nat) : Int) + (15) = ((33 : Nat) : Int)) (fun c9 => ?_) (fun c9 => ?_)
      · have hs := hs.1 c9
        refine am_iinc (v := (x3 + 1)) dX7_putAll_33 0 rfl rfl (by decide) (lv' := [(3, .int (x3 + 1)), (2, .int x2), (0, .ref (gz G + 221)), (1, .int z1)]) rfl ?_
        refine am_goto dX7_putAll_36 (by decide : ((36 : Nat) : Int) + (-32) = ((4 : Nat) : Int)) ?_
        exact ih (x3 + 1) x2 y (ivU_s (iv_top c4) iv) hs gy  (fun h1 r e => kx h1 r (Eq.trans (ifn c4 (ifp c9 (rfl))) e))
      · have hs := hs.2 c9
        refine am_aload_n dX7_putAll_21 2 rfl ?_
        refine am_iload_n dX7_putAll_22 0 rfl ?_
        refine am_iload_n dX7_putAll_23 3 rfl ?_
        obtain ⟨i10, hs⟩ := hs
        refine am_callV (As := [.int x3, .int z1]) (rest := []) dX7_putAll_24 kMX7_92 rfl (hmc221 (m := y) gy) rfl rfl (Nat.le_of_ble_eq_true rfl) (d2 := 5) (by decide) (k2 := 0) (Nat.zero_le _) (u2 := 0) (Nat.zero_le _) (Nat.le_of_ble_eq_true rfl) (ctX7_put (m := y) gy x3 z1 i10) (fun v11 h12 q13 => ?_)
        obtain ⟨r14, e15, rfl, w16⟩ := q13
        have hs := bnd_p e15 hs
        refine am_if_eq dX7_putAll_27 (by decide : ((27 : Nat) : Int) + (6) = ((33 : Nat) : Int)) (fun c17 => ?_) (fun c17 => ?_)
        · have hs := hs.1 c17
          refine am_iinc (v := (x3 + 1)) dX7_putAll_33 0 rfl rfl (by decide) (lv' := [(3, .int (x3 + 1)), (2, .int x2), (0, .ref (gz G + 221)), (1, .int z1)]) rfl ?_
          refine am_goto dX7_putAll_36 (by decide : ((36 : Nat) : Int) + (-32) = ((4 : Nat) : Int)) ?_
          exact ih (x3 + 1) x2 r14.2 (ivU_s (iv_top c4) iv) hs w16  (fun h1 r e => kx h1 r (Eq.trans (ifn c4 (ifn c9 (bnd_eq e15 (ifp c17 (rfl))))) e))
        · have hs := hs.2 c17
          refine am_iinc (v := (x2 + 1)) dX7_putAll_30 1 rfl rfl (by decide) (lv' := [(2, .int (x2 + 1)), (3, .int x3), (0, .ref (gz G + 221)), (1, .int z1)]) rfl ?_
          refine am_iinc (v := (x3 + 1)) dX7_putAll_33 1 rfl rfl (by decide) (lv' := [(3, .int (x3 + 1)), (2, .int (x2 + 1)), (0, .ref (gz G + 221)), (1, .int z1)]) rfl ?_
          refine am_goto dX7_putAll_36 (by decide : ((36 : Nat) : Int) + (-32) = ((4 : Nat) : Int)) ?_
          exact ih (x3 + 1) (x2 + 1) r14.2 (ivU_s (iv_top c4) iv) hs w16  (fun h1 r e => kx h1 r (Eq.trans (ifn c4 (ifn c9 (bnd_eq e15 (ifn c17 (rfl))))) e))
def fX7_putAll (m : Md) (z1 : Int32) : Int32 × Md := (bnd (fX7_putAll_4 z1   (fuU 2147483647 0) 0 0 m) (fun r19 => (r19.2.1, r19.2.2)))
def sX7_putAll (m : Md) (z1 : Int32) : Prop := ((sX7_putAll_4 z1   (fuU 2147483647 0) 0 0 m) ∧ bnd (fX7_putAll_4 z1   (fuU 2147483647 0) 0 0 m) (fun r19 => True))
set_option maxRecDepth 20000 in
theorem ctX7_putAll {l : Launch} {G : GM} {K : Nat → Option va_E} {h : List va_E} {m : Md} (hm : HM G K h m) (z1 : Int32) (hs : sX7_putAll m z1) : Ct l G mX7_putAll 6 0 0 [.ref (gz G + 221), .int z1] h (fun v h1 => ∃ r, (fX7_putAll m z1) = r ∧ v = some (.int r.1) ∧ HM G K h1 r.2) := by
  show Tr l G mX7_putAll 6 0 0 0 [(0, .ref (gz G + 221)), (1, .int z1)] [] h _
  unfold sX7_putAll at hs
  refine am_iconst (v := 0) dX7_putAll_0 (by decide) ?_
  refine am_istore_n dX7_putAll_1 (by decide) (lv' := [(2, .int 0), (0, .ref (gz G + 221)), (1, .int z1)]) rfl ?_
  refine am_iconst (v := 0) dX7_putAll_2 (by decide) ?_
  refine am_istore_n dX7_putAll_3 (by decide) (lv' := [(3, .int 0), (2, .int 0), (0, .ref (gz G + 221)), (1, .int z1)]) rfl ?_
  obtain ⟨i18, hs⟩ := hs
  refine wX7_putAll_4 z1   (fuU 2147483647 0) 0 0 m ivU_i i18 hm  (fun h21 r19 e20 w22  => ?_)
  have hs := bnd_p e20 hs
  refine am_iload_n dX7_putAll_39 1 rfl ?_
  exact am_ireturn dX7_putAll_40 rfl rfl ⟨_, bnd_eq e20 (rfl), rfl, w22⟩

theorem dX7_pass_0 : decode cX7_pass 0 = .ok (.iconst 0, 1) := by decide +kernel
theorem dX7_pass_1 : decode cX7_pass 1 = .ok (.istore_n 1, 1) := by decide +kernel
theorem dX7_pass_2 : decode cX7_pass 2 = .ok (.iconst 0, 1) := by decide +kernel
theorem dX7_pass_3 : decode cX7_pass 3 = .ok (.istore_n 2, 1) := by decide +kernel
theorem dX7_pass_4 : decode cX7_pass 4 = .ok (.iload_n 2, 1) := by decide +kernel
theorem dX7_pass_5 : decode cX7_pass 5 = .ok (.aload_n 0, 1) := by decide +kernel
theorem dX7_pass_6 : decode cX7_pass 6 = .ok (.invokevirtual 85, 3) := by decide +kernel
theorem dX7_pass_9 : decode cX7_pass 9 = .ok (.if_icmp .ge 92, 3) := by decide +kernel
theorem dX7_pass_12 : decode cX7_pass 12 = .ok (.aload_n 0, 1) := by decide +kernel
theorem dX7_pass_13 : decode cX7_pass 13 = .ok (.iload_n 2, 1) := by decide +kernel
theorem dX7_pass_14 : decode cX7_pass 14 = .ok (.iconst 1, 1) := by decide +kernel
theorem dX7_pass_15 : decode cX7_pass 15 = .ok (.invokevirtual 89, 3) := by decide +kernel
theorem dX7_pass_18 : decode cX7_pass 18 = .ok (.ifCond .ne 6, 3) := by decide +kernel
theorem dX7_pass_21 : decode cX7_pass 21 = .ok (.goto 74, 3) := by decide +kernel
theorem dX7_pass_24 : decode cX7_pass 24 = .ok (.aload_n 0, 1) := by decide +kernel
theorem dX7_pass_25 : decode cX7_pass 25 = .ok (.iload_n 2, 1) := by decide +kernel
theorem dX7_pass_26 : decode cX7_pass 26 = .ok (.iconst 3, 1) := by decide +kernel
theorem dX7_pass_27 : decode cX7_pass 27 = .ok (.invokevirtual 60, 3) := by decide +kernel
theorem dX7_pass_30 : decode cX7_pass 30 = .ok (.istore_n 3, 1) := by decide +kernel
theorem dX7_pass_31 : decode cX7_pass 31 = .ok (.aload_n 0, 1) := by decide +kernel
theorem dX7_pass_32 : decode cX7_pass 32 = .ok (.getfield 23, 3) := by decide +kernel
theorem dX7_pass_35 : decode cX7_pass 35 = .ok (.bipush 10, 2) := by decide +kernel
theorem dX7_pass_37 : decode cX7_pass 37 = .ok (.iconst 3, 1) := by decide +kernel
theorem dX7_pass_38 : decode cX7_pass 38 = .ok (.aload_n 0, 1) := by decide +kernel
theorem dX7_pass_39 : decode cX7_pass 39 = .ok (.iload_n 2, 1) := by decide +kernel
theorem dX7_pass_40 : decode cX7_pass 40 = .ok (.iconst 0, 1) := by decide +kernel
theorem dX7_pass_41 : decode cX7_pass 41 = .ok (.invokevirtual 60, 3) := by decide +kernel
theorem dX7_pass_44 : decode cX7_pass 44 = .ok (.imul, 1) := by decide +kernel
theorem dX7_pass_45 : decode cX7_pass 45 = .ok (.iadd, 1) := by decide +kernel
theorem dX7_pass_46 : decode cX7_pass 46 = .ok (.iconst 2, 1) := by decide +kernel
theorem dX7_pass_47 : decode cX7_pass 47 = .ok (.iadd, 1) := by decide +kernel
theorem dX7_pass_48 : decode cX7_pass 48 = .ok (.iaload, 1) := by decide +kernel
theorem dX7_pass_49 : decode cX7_pass 49 = .ok (.istore 4, 2) := by decide +kernel
theorem dX7_pass_51 : decode cX7_pass 51 = .ok (.iload_n 3, 1) := by decide +kernel
theorem dX7_pass_52 : decode cX7_pass 52 = .ok (.iload_n 3, 1) := by decide +kernel
theorem dX7_pass_53 : decode cX7_pass 53 = .ok (.aload_n 0, 1) := by decide +kernel
theorem dX7_pass_54 : decode cX7_pass 54 = .ok (.iload_n 2, 1) := by decide +kernel
theorem dX7_pass_55 : decode cX7_pass 55 = .ok (.iconst 2, 1) := by decide +kernel
theorem dX7_pass_56 : decode cX7_pass 56 = .ok (.invokevirtual 60, 3) := by decide +kernel
theorem dX7_pass_59 : decode cX7_pass 59 = .ok (.isub, 1) := by decide +kernel
theorem dX7_pass_60 : decode cX7_pass 60 = .ok (.iload 4, 2) := by decide +kernel
theorem dX7_pass_62 : decode cX7_pass 62 = .ok (.imul, 1) := by decide +kernel
theorem dX7_pass_63 : decode cX7_pass 63 = .ok (.bipush 100, 2) := by decide +kernel
theorem dX7_pass_65 : decode cX7_pass 65 = .ok (.idiv, 1) := by decide +kernel
theorem dX7_pass_66 : decode cX7_pass 66 = .ok (.isub, 1) := by decide +kernel
theorem dX7_pass_67 : decode cX7_pass 67 = .ok (.istore 5, 2) := by decide +kernel
theorem dX7_pass_69 : decode cX7_pass 69 = .ok (.iload_n 1, 1) := by decide +kernel
theorem dX7_pass_70 : decode cX7_pass 70 = .ok (.iload 5, 2) := by decide +kernel
theorem dX7_pass_72 : decode cX7_pass 72 = .ok (.iload_n 3, 1) := by decide +kernel
theorem dX7_pass_73 : decode cX7_pass 73 = .ok (.if_icmp .eq 7, 3) := by decide +kernel
theorem dX7_pass_76 : decode cX7_pass 76 = .ok (.iconst 1, 1) := by decide +kernel
theorem dX7_pass_77 : decode cX7_pass 77 = .ok (.goto 4, 3) := by decide +kernel
theorem dX7_pass_80 : decode cX7_pass 80 = .ok (.iconst 0, 1) := by decide +kernel
theorem dX7_pass_81 : decode cX7_pass 81 = .ok (.iadd, 1) := by decide +kernel
theorem dX7_pass_82 : decode cX7_pass 82 = .ok (.istore_n 1, 1) := by decide +kernel
theorem dX7_pass_83 : decode cX7_pass 83 = .ok (.aload_n 0, 1) := by decide +kernel
theorem dX7_pass_84 : decode cX7_pass 84 = .ok (.getfield 23, 3) := by decide +kernel
theorem dX7_pass_87 : decode cX7_pass 87 = .ok (.iload_n 2, 1) := by decide +kernel
theorem dX7_pass_88 : decode cX7_pass 88 = .ok (.iconst 3, 1) := by decide +kernel
theorem dX7_pass_89 : decode cX7_pass 89 = .ok (.invokestatic 52, 3) := by decide +kernel
theorem dX7_pass_92 : decode cX7_pass 92 = .ok (.iload 5, 2) := by decide +kernel
theorem dX7_pass_94 : decode cX7_pass 94 = .ok (.iastore, 1) := by decide +kernel
theorem dX7_pass_95 : decode cX7_pass 95 = .ok (.iinc 2 1, 3) := by decide +kernel
theorem dX7_pass_98 : decode cX7_pass 98 = .ok (.goto (-94), 3) := by decide +kernel
theorem dX7_pass_101 : decode cX7_pass 101 = .ok (.aload_n 0, 1) := by decide +kernel
theorem dX7_pass_102 : decode cX7_pass 102 = .ok (.getfield 23, 3) := by decide +kernel
theorem dX7_pass_105 : decode cX7_pass 105 = .ok (.iconst 4, 1) := by decide +kernel
theorem dX7_pass_106 : decode cX7_pass 106 = .ok (.dup2, 1) := by decide +kernel
theorem dX7_pass_107 : decode cX7_pass 107 = .ok (.iaload, 1) := by decide +kernel
theorem dX7_pass_108 : decode cX7_pass 108 = .ok (.iconst 1, 1) := by decide +kernel
theorem dX7_pass_109 : decode cX7_pass 109 = .ok (.iadd, 1) := by decide +kernel
theorem dX7_pass_110 : decode cX7_pass 110 = .ok (.iastore, 1) := by decide +kernel
theorem dX7_pass_111 : decode cX7_pass 111 = .ok (.iload_n 1, 1) := by decide +kernel
theorem dX7_pass_112 : decode cX7_pass 112 = .ok (.ireturn, 1) := by decide +kernel
def fX7_pass_4   : Nat → Int32 → Int32 → Md → Int32 × Int32 × Md
  | 0, x2, x1, y => (x2, x1, y)
  | fu + 1, x2, x1, y => (if (fX7_count y ) ≤ x2 then (x2, x1, y) else (if (fX7_isIn y x2 1) = 0 then (fX7_pass_4    fu (x2 + 1) x1 y) else (if ((fX7_field y x2 3) - ((((fX7_field y x2 3) - (fX7_field y x2 2)) * ((y.2.1 (y.2.2)) (((10 : Int32) + ((3 : Int32) * (fX7_field y x2 0))) + 2).toNatClampNeg)) / 100)) = (fX7_field y x2 3) then (bnd (mA y (y.2.2) (upd (y.2.1 (y.2.2)) (fX7_at x2 3).toNatClampNeg ((fX7_field y x2 3) - ((((fX7_field y x2 3) - (fX7_field y x2 2)) * ((y.2.1 (y.2.2)) (((10 : Int32) + ((3 : Int32) * (fX7_field y x2 0))) + 2).toNatClampNeg)) / 100)))) (fun r29 => (fX7_pass_4    fu (x2 + 1) (x1 + 0) r29))) else (bnd (mA y (y.2.2) (upd (y.2.1 (y.2.2)) (fX7_at x2 3).toNatClampNeg ((fX7_field y x2 3) - ((((fX7_field y x2 3) - (fX7_field y x2 2)) * ((y.2.1 (y.2.2)) (((10 : Int32) + ((3 : Int32) * (fX7_field y x2 0))) + 2).toNatClampNeg)) / 100)))) (fun r37 => (fX7_pass_4    fu (x2 + 1) (x1 + 1) r37))))))
def sX7_pass_4   : Nat → Int32 → Int32 → Md → Prop
  | 0, _, _, _ => True
  | fu + 1, x2, x1, y => (((fX7_count y ) ≤ x2 → True) ∧ (¬ (fX7_count y ) ≤ x2 → ((sX7_isIn y x2 1) ∧ (((fX7_isIn y x2 1) = 0 → (sX7_pass_4    fu (x2 + 1) x1 y)) ∧ (¬ (fX7_isIn y x2 1) = 0 → ((sX7_field y x2 3) ∧ ((sX7_field y x2 0) ∧ (vp_in (((10 : Int32) + ((3 : Int32) * (fX7_field y x2 0))) + 2) 146 ∧ ((sX7_field y x2 2) ∧ ((((fX7_field y x2 3) - ((((fX7_field y x2 3) - (fX7_field y x2 2)) * ((y.2.1 (y.2.2)) (((10 : Int32) + ((3 : Int32) * (fX7_field y x2 0))) + 2).toNatClampNeg)) / 100)) = (fX7_field y x2 3) → (vp_in (fX7_at x2 3) 146 ∧ (bnd (mA y (y.2.2) (upd (y.2.1 (y.2.2)) (fX7_at x2 3).toNatClampNeg ((fX7_field y x2 3) - ((((fX7_field y x2 3) - (fX7_field y x2 2)) * ((y.2.1 (y.2.2)) (((10 : Int32) + ((3 : Int32) * (fX7_field y x2 0))) + 2).toNatClampNeg)) / 100)))) (fun r29 => (sX7_pass_4    fu (x2 + 1) (x1 + 0) r29))))) ∧ (¬ ((fX7_field y x2 3) - ((((fX7_field y x2 3) - (fX7_field y x2 2)) * ((y.2.1 (y.2.2)) (((10 : Int32) + ((3 : Int32) * (fX7_field y x2 0))) + 2).toNatClampNeg)) / 100)) = (fX7_field y x2 3) → (vp_in (fX7_at x2 3) 146 ∧ (bnd (mA y (y.2.2) (upd (y.2.1 (y.2.2)) (fX7_at x2 3).toNatClampNeg ((fX7_field y x2 3) - ((((fX7_field y x2 3) - (fX7_field y x2 2)) * ((y.2.1 (y.2.2)) (((10 : Int32) + ((3 : Int32) * (fX7_field y x2 0))) + 2).toNatClampNeg)) / 100)))) (fun r37 => (sX7_pass_4    fu (x2 + 1) (x1 + 1) r37)))))))))))))))
set_option maxRecDepth 20000 in
theorem wX7_pass_4 {l : Launch} {G : GM} {K : Nat → Option va_E}    {Q : Option Value → List va_E → Prop} : ∀ (fu : Nat) (x2 x1 : Int32) (y : Md) (iv : ivU 2147483647 x2 fu) (hs : sX7_pass_4    fu x2 x1 y) {h : List va_E} (gy : HM G K h y) (kx : ∀ (h1 : List va_E) (r : Int32 × Int32 × Md), (fX7_pass_4    fu x2 x1 y) = r → HM G K h1 r.2.2 → Tr l G mX7_pass 3 0 0 101 [(2, .int r.1), (1, .int r.2.1), (0, .ref (gz G + 221))] [] h1 Q), Tr l G mX7_pass 3 0 0 4 [(2, .int x2), (1, .int x1), (0, .ref (gz G + 221))] [] h Q := by
  intro fu
  induction fu with
  | zero => intro x2 x1 y iv; intros; exact absurd iv ivU_0
  | succ fu ih =>
    intro x2 x1 y iv hs  h gy  kx
    rw [sX7_pass_4] at hs
    refine am_iload_n dX7_pass_4 0 rfl ?_
    refine am_aload_n dX7_pass_5 2 rfl ?_
    refine am_callV (As := []) (rest := [.int x2]) dX7_pass_6 kMX7_85 rfl (hmc221 (m := y) gy) rfl rfl (Nat.le_of_ble_eq_true rfl) (d2 := 0) (by decide) (k2 := 0) (Nat.zero_le _) (u2 := 0) (Nat.zero_le _) (Nat.le_of_ble_eq_true rfl) (ctX7_count (m := y) gy  ) (fun v1 h2 q3 => ?_)
    obtain ⟨rfl, rfl⟩ := q3
    refine am_icmp_ge dX7_pass_9 (by decide : ((9 : Nat) : Int) + (92) = ((101 : Nat) : Int)) (fun c4 => ?_) (fun c4 => ?_)
    · have hs := hs.1 c4
      exact kx _ _ (ifp c4 (rfl)) gy 
    · have hs := hs.2 c4
      refine am_aload_n dX7_pass_12 2 rfl ?_
      refine am_iload_n dX7_pass_13 0 rfl ?_
      refine am_iconst (v := 1) dX7_pass_14 (by decide) ?_
      obtain ⟨i5, hs⟩ := hs
      refine am_callV (As := [.int x2, .int 1]) (rest := []) dX7_pass_15 kMX7_89 rfl (hmc221 (m := y) gy) rfl rfl (Nat.le_of_ble_eq_true rfl) (d2 := 2) (by decide) (k2 := 0) (Nat.zero_le _) (u2 := 0) (Nat.zero_le _) (Nat.le_of_ble_eq_true rfl) (ctX7_isIn (m := y) gy x2 1 i5) (fun v6 h7 q8 => ?_)
      obtain ⟨rfl, rfl⟩ := q8
      refine am_if_ne dX7_pass_18 (by decide : ((18 : Nat) : Int) + (6) = ((24 : Nat) : Int)) (fun c9 => ?_) (fun c9 => ?_)
      · have hs := hs.2 c9
        refine am_aload_n dX7_pass_24 2 rfl ?_
        refine am_iload_n dX7_pass_25 0 rfl ?_
        refine am_iconst (v := 3) dX7_pass_26 (by decide) ?_
        obtain ⟨i10, hs⟩ := hs
        refine am_callV (As := [.int x2, .int 3]) (rest := []) dX7_pass_27 kMX7_60 rfl (hmc221 (m := y) gy) rfl rfl (Nat.le_of_ble_eq_true rfl) (d2 := 1) (by decide) (k2 := 0) (Nat.zero_le _) (u2 := 0) (Nat.zero_le _) (Nat.le_of_ble_eq_true rfl) (ctX7_field (m := y) gy x2 3 i10) (fun v11 h12 q13 => ?_)
        obtain ⟨rfl, rfl⟩ := q13
        refine am_istore_n dX7_pass_30 (by decide) (lv' := [(3, .int (fX7_field y x2 3)), (2, .int x2), (1, .int x1), (0, .ref (gz G + 221))]) rfl ?_
        refine am_aload_n dX7_pass_31 3 rfl ?_
        refine am_get (v := .ref (gz G + (222 + (y.2.2)))) dX7_pass_32 kGX7_23 (hmc221 (m := y) gy) rfl ?_
        refine am_bipush (v := 10) dX7_pass_35 (by decide) ?_
        refine am_iconst (v := 3) dX7_pass_37 (by decide) ?_
        refine am_aload_n dX7_pass_38 3 rfl ?_
        refine am_iload_n dX7_pass_39 1 rfl ?_
        refine am_iconst (v := 0) dX7_pass_40 (by decide) ?_
        obtain ⟨i14, hs⟩ := hs
        refine am_callV (As := [.int x2, .int 0]) (rest := [.int 3, .int 10, .ref (gz G + (222 + (y.2.2)))]) dX7_pass_41 kMX7_60 rfl (hmc221 (m := y) gy) rfl rfl (Nat.le_of_ble_eq_true rfl) (d2 := 1) (by decide) (k2 := 0) (Nat.zero_le _) (u2 := 0) (Nat.zero_le _) (Nat.le_of_ble_eq_true rfl) (ctX7_field (m := y) gy x2 0 i14) (fun v15 h16 q17 => ?_)
        obtain ⟨rfl, rfl⟩ := q17
        refine am_imul dX7_pass_44 ?_
        refine am_iadd dX7_pass_45 ?_
        refine am_iconst (v := 2) dX7_pass_46 (by decide) ?_
        refine am_iadd dX7_pass_47 ?_
        obtain ⟨i18, hs⟩ := hs
        refine am_iald (f := (y.2.1 (y.2.2))) dX7_pass_48 (hmN (m := y) gy) i18 ?_
        refine am_istore dX7_pass_49 (by decide) (lv' := [(4, .int ((y.2.1 (y.2.2)) (((10 : Int32) + ((3 : Int32) * (fX7_field y x2 0))) + 2).toNatClampNeg)), (3, .int (fX7_field y x2 3)), (2, .int x2), (1, .int x1), (0, .ref (gz G + 221))]) rfl ?_
        refine am_iload_n dX7_pass_51 1 rfl ?_
        refine am_iload_n dX7_pass_52 1 rfl ?_
        refine am_aload_n dX7_pass_53 4 rfl ?_
        refine am_iload_n dX7_pass_54 2 rfl ?_
        refine am_iconst (v := 2) dX7_pass_55 (by decide) ?_
        obtain ⟨i19, hs⟩ := hs
        refine am_callV (As := [.int x2, .int 2]) (rest := [.int (fX7_field y x2 3), .int (fX7_field y x2 3)]) dX7_pass_56 kMX7_60 rfl (hmc221 (m := y) gy) rfl rfl (Nat.le_of_ble_eq_true rfl) (d2 := 1) (by decide) (k2 := 0) (Nat.zero_le _) (u2 := 0) (Nat.zero_le _) (Nat.le_of_ble_eq_true rfl) (ctX7_field (m := y) gy x2 2 i19) (fun v20 h21 q22 => ?_)
        obtain ⟨rfl, rfl⟩ := q22
        refine am_isub dX7_pass_59 ?_
        refine am_iload dX7_pass_60 0 rfl ?_
        refine am_imul dX7_pass_62 ?_
        refine am_bipush (v := 100) dX7_pass_63 (by decide) ?_
        refine am_idiv dX7_pass_65 (by decide) ?_
        refine am_isub dX7_pass_66 ?_
        refine am_istore dX7_pass_67 (by decide) (lv' := [(5, .int ((fX7_field y x2 3) - ((((fX7_field y x2 3) - (fX7_field y x2 2)) * ((y.2.1 (y.2.2)) (((10 : Int32) + ((3 : Int32) * (fX7_field y x2 0))) + 2).toNatClampNeg)) / 100))), (4, .int ((y.2.1 (y.2.2)) (((10 : Int32) + ((3 : Int32) * (fX7_field y x2 0))) + 2).toNatClampNeg)), (3, .int (fX7_field y x2 3)), (2, .int x2), (1, .int x1), (0, .ref (gz G + 221))]) rfl ?_
        refine am_iload_n dX7_pass_69 4 rfl ?_
        refine am_iload dX7_pass_70 0 rfl ?_
        refine am_iload_n dX7_pass_72 2 rfl ?_
        refine am_icmp_eq dX7_pass_73 (by decide : ((73 : Nat) : Int) + (7) = ((80 : Nat) : Int)) (fun c23 => ?_) (fun c23 => ?_)
        · have hs := hs.1 c23
          refine am_iconst (v := 0) dX7_pass_80 (by decide) ?_
          refine am_iadd dX7_pass_81 ?_
          refine am_istore_n dX7_pass_82 (by decide) (lv' := [(1, .int (x1 + 0)), (5, .int ((fX7_field y x2 3) - ((((fX7_field y x2 3) - (fX7_field y x2 2)) * ((y.2.1 (y.2.2)) (((10 : Int32) + ((3 : Int32) * (fX7_field y x2 0))) + 2).toNatClampNeg)) / 100))), (4, .int ((y.2.1 (y.2.2)) (((10 : Int32) + ((3 : Int32) * (fX7_field y x2 0))) + 2).toNatClampNeg)), (3, .int (fX7_field y x2 3)), (2, .int x2), (0, .ref (gz G + 221))]) rfl ?_
          refine am_aload_n dX7_pass_83 5 rfl ?_
          refine am_get (v := .ref (gz G + (222 + (y.2.2)))) dX7_pass_84 kGX7_23 (hmc221 (m := y) gy) rfl ?_
          refine am_iload_n dX7_pass_87 4 rfl ?_
          refine am_iconst (v := 3) dX7_pass_88 (by decide) ?_
          refine am_callS (As := [.int x2, .int 3]) (rest := [.ref (gz G + (222 + (y.2.2)))]) dX7_pass_89 kMX7_52 rfl  rfl (Nat.le_of_ble_eq_true rfl) (d2 := 0) (by decide) (k2 := 0) (Nat.zero_le _) (u2 := 0) (Nat.zero_le _) (Nat.le_of_ble_eq_true rfl) (ctX7_at  x2 3 ) (fun v24 h25 q26 => ?_)
          obtain ⟨rfl, rfl⟩ := q26
          refine am_iload dX7_pass_92 1 rfl ?_
          obtain ⟨i27, hs⟩ := hs
          refine am_iast (f := (y.2.1 (y.2.2))) dX7_pass_94 (hmN (m := y) gy) i27 ?_
          have w28 := hmNw gy (upd (y.2.1 (y.2.2)) (fX7_at x2 3).toNatClampNeg ((fX7_field y x2 3) - ((((fX7_field y x2 3) - (fX7_field y x2 2)) * ((y.2.1 (y.2.2)) (((10 : Int32) + ((3 : Int32) * (fX7_field y x2 0))) + 2).toNatClampNeg)) / 100)))
          obtain ⟨r29, e30⟩ : ∃ x, (mA y (y.2.2) (upd (y.2.1 (y.2.2)) (fX7_at x2 3).toNatClampNeg ((fX7_field y x2 3) - ((((fX7_field y x2 3) - (fX7_field y x2 2)) * ((y.2.1 (y.2.2)) (((10 : Int32) + ((3 : Int32) * (fX7_field y x2 0))) + 2).toNatClampNeg)) / 100)))) = x := ⟨_, rfl⟩
          have w31 := hm_eq e30 w28
          have hs := bnd_p e30 hs
          refine am_iinc (v := (x2 + 1)) dX7_pass_95 4 rfl rfl (by decide) (lv' := [(2, .int (x2 + 1)), (1, .int (x1 + 0)), (5, .int ((fX7_field y x2 3) - ((((fX7_field y x2 3) - (fX7_field y x2 2)) * ((y.2.1 (y.2.2)) (((10 : Int32) + ((3 : Int32) * (fX7_field y x2 0))) + 2).toNatClampNeg)) / 100))), (4, .int ((y.2.1 (y.2.2)) (((10 : Int32) + ((3 : Int32) * (fX7_field y x2 0))) + 2).toNatClampNeg)), (3, .int (fX7_field y x2 3)), (0, .ref (gz G + 221))]) rfl ?_
          refine am_goto dX7_pass_98 (by decide : ((98 : Nat) : Int) + (-94) = ((4 : Nat) : Int)) ?_
          refine am_lv (lv' := [(2, .int (x2 + 1)), (1, .int (x1 + 0)), (0, .ref (gz G + 221))]) [0, 1, 5] rfl ?_
          exact ih (x2 + 1) (x1 + 0) r29 (ivU_s (iv_top c4) iv) hs w31  (fun h1 r e => kx h1 r (Eq.trans (ifn c4 (ifn c9 (ifp c23 (bnd_eq e30 (rfl))))) e))
        · have hs := hs.2 c23
          refine am_iconst (v := 1) dX7_pass_76 (by decide) ?_
          refine am_goto dX7_pass_77 (by decide : ((77 : Nat) : Int) + (4) = ((81 : Nat) : Int)) ?_
          refine am_iadd dX7_pass_81 ?_
          refine am_istore_n dX7_pass_82 (by decide) (lv' := [(1, .int (x1 + 1)), (5, .int ((fX7_field y x2 3) - ((((fX7_field y x2 3) - (fX7_field y x2 2)) * ((y.2.1 (y.2.2)) (((10 : Int32) + ((3 : Int32) * (fX7_field y x2 0))) + 2).toNatClampNeg)) / 100))), (4, .int ((y.2.1 (y.2.2)) (((10 : Int32) + ((3 : Int32) * (fX7_field y x2 0))) + 2).toNatClampNeg)), (3, .int (fX7_field y x2 3)), (2, .int x2), (0, .ref (gz G + 221))]) rfl ?_
          refine am_aload_n dX7_pass_83 5 rfl ?_
          refine am_get (v := .ref (gz G + (222 + (y.2.2)))) dX7_pass_84 kGX7_23 (hmc221 (m := y) gy) rfl ?_
          refine am_iload_n dX7_pass_87 4 rfl ?_
          refine am_iconst (v := 3) dX7_pass_88 (by decide) ?_
          refine am_callS (As := [.int x2, .int 3]) (rest := [.ref (gz G + (222 + (y.2.2)))]) dX7_pass_89 kMX7_52 rfl  rfl (Nat.le_of_ble_eq_true rfl) (d2 := 0) (by decide) (k2 := 0) (Nat.zero_le _) (u2 := 0) (Nat.zero_le _) (Nat.le_of_ble_eq_true rfl) (ctX7_at  x2 3 ) (fun v32 h33 q34 => ?_)
          obtain ⟨rfl, rfl⟩ := q34
          refine am_iload dX7_pass_92 1 rfl ?_
          obtain ⟨i35, hs⟩ := hs
          refine am_iast (f := (y.2.1 (y.2.2))) dX7_pass_94 (hmN (m := y) gy) i35 ?_
          have w36 := hmNw gy (upd (y.2.1 (y.2.2)) (fX7_at x2 3).toNatClampNeg ((fX7_field y x2 3) - ((((fX7_field y x2 3) - (fX7_field y x2 2)) * ((y.2.1 (y.2.2)) (((10 : Int32) + ((3 : Int32) * (fX7_field y x2 0))) + 2).toNatClampNeg)) / 100)))
          obtain ⟨r37, e38⟩ : ∃ x, (mA y (y.2.2) (upd (y.2.1 (y.2.2)) (fX7_at x2 3).toNatClampNeg ((fX7_field y x2 3) - ((((fX7_field y x2 3) - (fX7_field y x2 2)) * ((y.2.1 (y.2.2)) (((10 : Int32) + ((3 : Int32) * (fX7_field y x2 0))) + 2).toNatClampNeg)) / 100)))) = x := ⟨_, rfl⟩
          have w39 := hm_eq e38 w36
          have hs := bnd_p e38 hs
          refine am_iinc (v := (x2 + 1)) dX7_pass_95 4 rfl rfl (by decide) (lv' := [(2, .int (x2 + 1)), (1, .int (x1 + 1)), (5, .int ((fX7_field y x2 3) - ((((fX7_field y x2 3) - (fX7_field y x2 2)) * ((y.2.1 (y.2.2)) (((10 : Int32) + ((3 : Int32) * (fX7_field y x2 0))) + 2).toNatClampNeg)) / 100))), (4, .int ((y.2.1 (y.2.2)) (((10 : Int32) + ((3 : Int32) * (fX7_field y x2 0))) + 2).toNatClampNeg)), (3, .int (fX7_field y x2 3)), (0, .ref (gz G + 221))]) rfl ?_
          refine am_goto dX7_pass_98 (by decide : ((98 : Nat) : Int) + (-94) = ((4 : Nat) : Int)) ?_
          refine am_lv (lv' := [(2, .int (x2 + 1)), (1, .int (x1 + 1)), (0, .ref (gz G + 221))]) [0, 1, 5] rfl ?_
          exact ih (x2 + 1) (x1 + 1) r37 (ivU_s (iv_top c4) iv) hs w39  (fun h1 r e => kx h1 r (Eq.trans (ifn c4 (ifn c9 (ifn c23 (bnd_eq e38 (rfl))))) e))
      · have hs := hs.1 c9
        refine am_goto dX7_pass_21 (by decide : ((21 : Nat) : Int) + (74) = ((95 : Nat) : Int)) ?_
        refine am_iinc (v := (x2 + 1)) dX7_pass_95 0 rfl rfl (by decide) (lv' := [(2, .int (x2 + 1)), (1, .int x1), (0, .ref (gz G + 221))]) rfl ?_
        refine am_goto dX7_pass_98 (by decide : ((98 : Nat) : Int) + (-94) = ((4 : Nat) : Int)) ?_
        exact ih (x2 + 1) x1 y (ivU_s (iv_top c4) iv) hs gy  (fun h1 r e => kx h1 r (Eq.trans (ifn c4 (ifp c9 (rfl))) e))
def fX7_pass (m : Md)  : Int32 × Md := (bnd (fX7_pass_4    (fuU 2147483647 0) 0 0 m) (fun r41 => (bnd (mA r41.2.2 (r41.2.2.2.2) (upd (r41.2.2.2.1 (r41.2.2.2.2)) 4 (((r41.2.2.2.1 (r41.2.2.2.2)) 4) + 1))) (fun r46 => (r41.2.1, r46)))))
def sX7_pass (m : Md)  : Prop := ((sX7_pass_4    (fuU 2147483647 0) 0 0 m) ∧ bnd (fX7_pass_4    (fuU 2147483647 0) 0 0 m) (fun r41 => (bnd (mA r41.2.2 (r41.2.2.2.2) (upd (r41.2.2.2.1 (r41.2.2.2.2)) 4 (((r41.2.2.2.1 (r41.2.2.2.2)) 4) + 1))) (fun r46 => True))))
set_option maxRecDepth 20000 in
theorem ctX7_pass {l : Launch} {G : GM} {K : Nat → Option va_E} {h : List va_E} {m : Md} (hm : HM G K h m)  (hs : sX7_pass m ) : Ct l G mX7_pass 3 0 0 [.ref (gz G + 221)] h (fun v h1 => ∃ r, (fX7_pass m ) = r ∧ v = some (.int r.1) ∧ HM G K h1 r.2) := by
  show Tr l G mX7_pass 3 0 0 0 [(0, .ref (gz G + 221))] [] h _
  unfold sX7_pass at hs
  refine am_iconst (v := 0) dX7_pass_0 (by decide) ?_
  refine am_istore_n dX7_pass_1 (by decide) (lv' := [(1, .int 0), (0, .ref (gz G + 221))]) rfl ?_
  refine am_iconst (v := 0) dX7_pass_2 (by decide) ?_
  refine am_istore_n dX7_pass_3 (by decide) (lv' := [(2, .int 0), (1, .int 0), (0, .ref (gz G + 221))]) rfl ?_
  obtain ⟨i40, hs⟩ := hs
  refine wX7_pass_4    (fuU 2147483647 0) 0 0 m ivU_i i40 hm  (fun h43 r41 e42 w44  => ?_)
  have hs := bnd_p e42 hs
  refine am_aload_n dX7_pass_101 2 rfl ?_
  refine am_get (v := .ref (gz G + (222 + (r41.2.2.2.2)))) dX7_pass_102 kGX7_23 (hmc221 (m := r41.2.2) w44) rfl ?_
  refine am_iconst (v := 4) dX7_pass_105 (by decide) ?_
  refine am_dup2 dX7_pass_106 rfl rfl ?_
  refine am_iald (f := (r41.2.2.2.1 (r41.2.2.2.2))) dX7_pass_107 (hmN (m := r41.2.2) w44) (vp_lit (by decide)) ?_
  rw [tl4]
  refine am_iconst (v := 1) dX7_pass_108 (by decide) ?_
  refine am_iadd dX7_pass_109 ?_
  refine am_iast (f := (r41.2.2.2.1 (r41.2.2.2.2))) dX7_pass_110 (hmN (m := r41.2.2) w44) (vp_lit (by decide)) ?_
  rw [tl4]
  have w45 := hmNw w44 (upd (r41.2.2.2.1 (r41.2.2.2.2)) 4 (((r41.2.2.2.1 (r41.2.2.2.2)) 4) + 1))
  obtain ⟨r46, e47⟩ : ∃ x, (mA r41.2.2 (r41.2.2.2.2) (upd (r41.2.2.2.1 (r41.2.2.2.2)) 4 (((r41.2.2.2.1 (r41.2.2.2.2)) 4) + 1))) = x := ⟨_, rfl⟩
  have w48 := hm_eq e47 w45
  have hs := bnd_p e47 hs
  refine am_iload_n dX7_pass_111 1 rfl ?_
  exact am_ireturn dX7_pass_112 rfl rfl ⟨_, bnd_eq e42 (bnd_eq e47 (rfl)), rfl, w48⟩

theorem dX7_sizeFor_0 : decode cX7_sizeFor 0 = .ok (.iconst 0, 1) := by decide +kernel
theorem dX7_sizeFor_1 : decode cX7_sizeFor 1 = .ok (.istore_n 3, 1) := by decide +kernel
theorem dX7_sizeFor_2 : decode cX7_sizeFor 2 = .ok (.iload_n 3, 1) := by decide +kernel
theorem dX7_sizeFor_3 : decode cX7_sizeFor 3 = .ok (.aload_n 0, 1) := by decide +kernel
theorem dX7_sizeFor_4 : decode cX7_sizeFor 4 = .ok (.getfield 23, 3) := by decide +kernel
theorem dX7_sizeFor_7 : decode cX7_sizeFor 7 = .ok (.bipush 7, 2) := by decide +kernel
theorem dX7_sizeFor_9 : decode cX7_sizeFor 9 = .ok (.iaload, 1) := by decide +kernel
theorem dX7_sizeFor_10 : decode cX7_sizeFor 10 = .ok (.if_icmp .ge 45, 3) := by decide +kernel
theorem dX7_sizeFor_13 : decode cX7_sizeFor 13 = .ok (.iload_n 1, 1) := by decide +kernel
theorem dX7_sizeFor_14 : decode cX7_sizeFor 14 = .ok (.aload_n 0, 1) := by decide +kernel
theorem dX7_sizeFor_15 : decode cX7_sizeFor 15 = .ok (.getfield 23, 3) := by decide +kernel
theorem dX7_sizeFor_18 : decode cX7_sizeFor 18 = .ok (.bipush 44, 2) := by decide +kernel
theorem dX7_sizeFor_20 : decode cX7_sizeFor 20 = .ok (.iconst 3, 1) := by decide +kernel
theorem dX7_sizeFor_21 : decode cX7_sizeFor 21 = .ok (.iload_n 3, 1) := by decide +kernel
theorem dX7_sizeFor_22 : decode cX7_sizeFor 22 = .ok (.imul, 1) := by decide +kernel
theorem dX7_sizeFor_23 : decode cX7_sizeFor 23 = .ok (.iadd, 1) := by decide +kernel
theorem dX7_sizeFor_24 : decode cX7_sizeFor 24 = .ok (.iconst 1, 1) := by decide +kernel
theorem dX7_sizeFor_25 : decode cX7_sizeFor 25 = .ok (.iadd, 1) := by decide +kernel
theorem dX7_sizeFor_26 : decode cX7_sizeFor 26 = .ok (.iaload, 1) := by decide +kernel
theorem dX7_sizeFor_27 : decode cX7_sizeFor 27 = .ok (.if_icmp .lt 22, 3) := by decide +kernel
theorem dX7_sizeFor_30 : decode cX7_sizeFor 30 = .ok (.iload_n 2, 1) := by decide +kernel
theorem dX7_sizeFor_31 : decode cX7_sizeFor 31 = .ok (.aload_n 0, 1) := by decide +kernel
theorem dX7_sizeFor_32 : decode cX7_sizeFor 32 = .ok (.getfield 23, 3) := by decide +kernel
theorem dX7_sizeFor_35 : decode cX7_sizeFor 35 = .ok (.bipush 44, 2) := by decide +kernel
theorem dX7_sizeFor_37 : decode cX7_sizeFor 37 = .ok (.iconst 3, 1) := by decide +kernel
theorem dX7_sizeFor_38 : decode cX7_sizeFor 38 = .ok (.iload_n 3, 1) := by decide +kernel
theorem dX7_sizeFor_39 : decode cX7_sizeFor 39 = .ok (.imul, 1) := by decide +kernel
theorem dX7_sizeFor_40 : decode cX7_sizeFor 40 = .ok (.iadd, 1) := by decide +kernel
theorem dX7_sizeFor_41 : decode cX7_sizeFor 41 = .ok (.iconst 2, 1) := by decide +kernel
theorem dX7_sizeFor_42 : decode cX7_sizeFor 42 = .ok (.iadd, 1) := by decide +kernel
theorem dX7_sizeFor_43 : decode cX7_sizeFor 43 = .ok (.iaload, 1) := by decide +kernel
theorem dX7_sizeFor_44 : decode cX7_sizeFor 44 = .ok (.if_icmp .gt 5, 3) := by decide +kernel
theorem dX7_sizeFor_47 : decode cX7_sizeFor 47 = .ok (.iload_n 3, 1) := by decide +kernel
theorem dX7_sizeFor_48 : decode cX7_sizeFor 48 = .ok (.ireturn, 1) := by decide +kernel
theorem dX7_sizeFor_49 : decode cX7_sizeFor 49 = .ok (.iinc 3 1, 3) := by decide +kernel
theorem dX7_sizeFor_52 : decode cX7_sizeFor 52 = .ok (.goto (-50), 3) := by decide +kernel
theorem dX7_sizeFor_55 : decode cX7_sizeFor 55 = .ok (.iconst (-1), 1) := by decide +kernel
theorem dX7_sizeFor_56 : decode cX7_sizeFor 56 = .ok (.ireturn, 1) := by decide +kernel
def fX7_sizeFor_2 (z1 : Int32) (z2 : Int32)  (m : Md) : Nat → Int32 → Int32
  | 0, _ => 0
  | fu + 1, x3 => (if ((m.2.1 (m.2.2)) 7) ≤ x3 then (-1) else (if z1 < ((m.2.1 (m.2.2)) (((44 : Int32) + ((3 : Int32) * x3)) + 1).toNatClampNeg) then (fX7_sizeFor_2 z1 z2  m fu (x3 + 1) ) else (if ((m.2.1 (m.2.2)) (((44 : Int32) + ((3 : Int32) * x3)) + 2).toNatClampNeg) < z2 then (fX7_sizeFor_2 z1 z2  m fu (x3 + 1) ) else x3)))
def sX7_sizeFor_2 (z1 : Int32) (z2 : Int32)  (m : Md) : Nat → Int32 → Prop
  | 0, _ => True
  | fu + 1, x3 => ((((m.2.1 (m.2.2)) 7) ≤ x3 → True) ∧ (¬ ((m.2.1 (m.2.2)) 7) ≤ x3 → (vp_in (((44 : Int32) + ((3 : Int32) * x3)) + 1) 146 ∧ ((z1 < ((m.2.1 (m.2.2)) (((44 : Int32) + ((3 : Int32) * x3)) + 1).toNatClampNeg) → (sX7_sizeFor_2 z1 z2  m fu (x3 + 1) )) ∧ (¬ z1 < ((m.2.1 (m.2.2)) (((44 : Int32) + ((3 : Int32) * x3)) + 1).toNatClampNeg) → (vp_in (((44 : Int32) + ((3 : Int32) * x3)) + 2) 146 ∧ ((((m.2.1 (m.2.2)) (((44 : Int32) + ((3 : Int32) * x3)) + 2).toNatClampNeg) < z2 → (sX7_sizeFor_2 z1 z2  m fu (x3 + 1) )) ∧ (¬ ((m.2.1 (m.2.2)) (((44 : Int32) + ((3 : Int32) * x3)) + 2).toNatClampNeg) < z2 → True))))))))
set_option maxRecDepth 20000 in
theorem wX7_sizeFor_2 {l : Launch} {G : GM} {K : Nat → Option va_E} (z1 : Int32) (z2 : Int32)   {h : List va_E} {m : Md} (hm : HM G K h m) : ∀ (fu : Nat) (x3 : Int32) (iv : ivU ((m.2.1 (m.2.2)) 7) x3 fu) (hs : sX7_sizeFor_2 z1 z2  m fu x3 ), Tr l G mX7_sizeFor 0 0 0 2 [(3, .int x3), (0, .ref (gz G + 221)), (1, .int z1), (2, .int z2)] [] h (fun v h1 => v = some (.int (fX7_sizeFor_2 z1 z2  m fu x3 )) ∧ h1 = h) := by
  intro fu
  induction fu with
  | zero => intro x3 iv; intros; exact absurd iv ivU_0
  | succ fu ih =>
    intro x3 iv hs    
    rw [sX7_sizeFor_2] at hs
    refine am_iload_n dX7_sizeFor_2 0 rfl ?_
    refine am_aload_n dX7_sizeFor_3 1 rfl ?_
    refine am_get (v := .ref (gz G + (222 + (m.2.2)))) dX7_sizeFor_4 kGX7_23 (hmc221 (m := m) hm) rfl ?_
    refine am_bipush (v := 7) dX7_sizeFor_7 (by decide) ?_
    refine am_iald (f := (m.2.1 (m.2.2))) dX7_sizeFor_9 (hmN (m := m) hm) (vp_lit (by decide)) ?_
    rw [tl7]
    refine am_icmp_ge dX7_sizeFor_10 (by decide : ((10 : Nat) : Int) + (45) = ((55 : Nat) : Int)) (fun c1 => ?_) (fun c1 => ?_)
    · have hs := hs.1 c1
      refine am_iconst (v := (-1)) dX7_sizeFor_55 (by decide) ?_
      rw [show (fX7_sizeFor_2 z1 z2  m (fu + 1) x3 ) = (-1) from ifp c1 (rfl)]
      exact am_ireturn dX7_sizeFor_56 rfl rfl ⟨rfl, rfl⟩
    · have hs := hs.2 c1
      refine am_iload_n dX7_sizeFor_13 2 rfl ?_
      refine am_aload_n dX7_sizeFor_14 1 rfl ?_
      refine am_get (v := .ref (gz G + (222 + (m.2.2)))) dX7_sizeFor_15 kGX7_23 (hmc221 (m := m) hm) rfl ?_
      refine am_bipush (v := 44) dX7_sizeFor_18 (by decide) ?_
      refine am_iconst (v := 3) dX7_sizeFor_20 (by decide) ?_
      refine am_iload_n dX7_sizeFor_21 0 rfl ?_
      refine am_imul dX7_sizeFor_22 ?_
      refine am_iadd dX7_sizeFor_23 ?_
      refine am_iconst (v := 1) dX7_sizeFor_24 (by decide) ?_
      refine am_iadd dX7_sizeFor_25 ?_
      obtain ⟨i2, hs⟩ := hs
      refine am_iald (f := (m.2.1 (m.2.2))) dX7_sizeFor_26 (hmN (m := m) hm) i2 ?_
      refine am_icmp_lt dX7_sizeFor_27 (by decide : ((27 : Nat) : Int) + (22) = ((49 : Nat) : Int)) (fun c3 => ?_) (fun c3 => ?_)
      · have hs := hs.1 c3
        refine am_iinc (v := (x3 + 1)) dX7_sizeFor_49 0 rfl rfl (by decide) (lv' := [(3, .int (x3 + 1)), (0, .ref (gz G + 221)), (1, .int z1), (2, .int z2)]) rfl ?_
        refine am_goto dX7_sizeFor_52 (by decide : ((52 : Nat) : Int) + (-50) = ((2 : Nat) : Int)) ?_
        rw [show (fX7_sizeFor_2 z1 z2  m (fu + 1) x3 ) = (fX7_sizeFor_2 z1 z2  m fu (x3 + 1) ) from ifn c1 (ifp c3 (rfl))]
        exact ih (x3 + 1) (ivU_s c1 iv) hs 
      · have hs := hs.2 c3
        refine am_iload_n dX7_sizeFor_30 3 rfl ?_
        refine am_aload_n dX7_sizeFor_31 1 rfl ?_
        refine am_get (v := .ref (gz G + (222 + (m.2.2)))) dX7_sizeFor_32 kGX7_23 (hmc221 (m := m) hm) rfl ?_
        refine am_bipush (v := 44) dX7_sizeFor_35 (by decide) ?_
        refine am_iconst (v := 3) dX7_sizeFor_37 (by decide) ?_
        refine am_iload_n dX7_sizeFor_38 0 rfl ?_
        refine am_imul dX7_sizeFor_39 ?_
        refine am_iadd dX7_sizeFor_40 ?_
        refine am_iconst (v := 2) dX7_sizeFor_41 (by decide) ?_
        refine am_iadd dX7_sizeFor_42 ?_
        obtain ⟨i4, hs⟩ := hs
        refine am_iald (f := (m.2.1 (m.2.2))) dX7_sizeFor_43 (hmN (m := m) hm) i4 ?_
        refine am_icmp_gt dX7_sizeFor_44 (by decide : ((44 : Nat) : Int) + (5) = ((49 : Nat) : Int)) (fun c5 => ?_) (fun c5 => ?_)
        · have hs := hs.1 c5
          refine am_iinc (v := (x3 + 1)) dX7_sizeFor_49 0 rfl rfl (by decide) (lv' := [(3, .int (x3 + 1)), (0, .ref (gz G + 221)), (1, .int z1), (2, .int z2)]) rfl ?_
          refine am_goto dX7_sizeFor_52 (by decide : ((52 : Nat) : Int) + (-50) = ((2 : Nat) : Int)) ?_
          rw [show (fX7_sizeFor_2 z1 z2  m (fu + 1) x3 ) = (fX7_sizeFor_2 z1 z2  m fu (x3 + 1) ) from ifn c1 (ifn c3 (ifp c5 (rfl)))]
          exact ih (x3 + 1) (ivU_s c1 iv) hs 
        · have hs := hs.2 c5
          refine am_iload_n dX7_sizeFor_47 0 rfl ?_
          rw [show (fX7_sizeFor_2 z1 z2  m (fu + 1) x3 ) = x3 from ifn c1 (ifn c3 (ifn c5 (rfl)))]
          exact am_ireturn dX7_sizeFor_48 rfl rfl ⟨rfl, rfl⟩
def fX7_sizeFor (m : Md) (z1 : Int32) (z2 : Int32) : Int32 := (fX7_sizeFor_2 z1 z2  m (fuU ((m.2.1 (m.2.2)) 7) 0) 0 )
def sX7_sizeFor (m : Md) (z1 : Int32) (z2 : Int32) : Prop := (sX7_sizeFor_2 z1 z2  m (fuU ((m.2.1 (m.2.2)) 7) 0) 0 )
set_option maxRecDepth 20000 in
theorem ctX7_sizeFor {l : Launch} {G : GM} {K : Nat → Option va_E} {h : List va_E} {m : Md} (hm : HM G K h m) (z1 : Int32) (z2 : Int32) (hs : sX7_sizeFor m z1 z2) : Ct l G mX7_sizeFor 0 0 0 [.ref (gz G + 221), .int z1, .int z2] h (fun v h1 => v = some (.int (fX7_sizeFor m z1 z2)) ∧ h1 = h) := by
  show Tr l G mX7_sizeFor 0 0 0 0 [(0, .ref (gz G + 221)), (1, .int z1), (2, .int z2)] [] h _
  unfold sX7_sizeFor at hs
  refine am_iconst (v := 0) dX7_sizeFor_0 (by decide) ?_
  refine am_istore_n dX7_sizeFor_1 (by decide) (lv' := [(3, .int 0), (0, .ref (gz G + 221)), (1, .int z1), (2, .int z2)]) rfl ?_
  rw [show (fX7_sizeFor m z1 z2) = (fX7_sizeFor_2 z1 z2  m (fuU ((m.2.1 (m.2.2)) 7) 0) 0 ) from rfl]
  exact wX7_sizeFor_2 z1 z2   hm (fuU ((m.2.1 (m.2.2)) 7) 0) 0 ivU_i hs

theorem dX7_sizeOfPiece_0 : decode cX7_sizeOfPiece 0 = .ok (.aload_n 0, 1) := by decide +kernel
theorem dX7_sizeOfPiece_1 : decode cX7_sizeOfPiece 1 = .ok (.aload_n 0, 1) := by decide +kernel
theorem dX7_sizeOfPiece_2 : decode cX7_sizeOfPiece 2 = .ok (.iload_n 1, 1) := by decide +kernel
theorem dX7_sizeOfPiece_3 : decode cX7_sizeOfPiece 3 = .ok (.iconst 3, 1) := by decide +kernel
theorem dX7_sizeOfPiece_4 : decode cX7_sizeOfPiece 4 = .ok (.invokevirtual 60, 3) := by decide +kernel
theorem dX7_sizeOfPiece_7 : decode cX7_sizeOfPiece 7 = .ok (.aload_n 0, 1) := by decide +kernel
theorem dX7_sizeOfPiece_8 : decode cX7_sizeOfPiece 8 = .ok (.iload_n 1, 1) := by decide +kernel
theorem dX7_sizeOfPiece_9 : decode cX7_sizeOfPiece 9 = .ok (.iconst 3, 1) := by decide +kernel
theorem dX7_sizeOfPiece_10 : decode cX7_sizeOfPiece 10 = .ok (.invokevirtual 60, 3) := by decide +kernel
theorem dX7_sizeOfPiece_13 : decode cX7_sizeOfPiece 13 = .ok (.invokevirtual 95, 3) := by decide +kernel
theorem dX7_sizeOfPiece_16 : decode cX7_sizeOfPiece 16 = .ok (.ireturn, 1) := by decide +kernel
def fX7_sizeOfPiece (m : Md) (z1 : Int32) : Int32 := (fX7_sizeFor m (fX7_field m z1 3) (fX7_field m z1 3))
def sX7_sizeOfPiece (m : Md) (z1 : Int32) : Prop := ((sX7_field m z1 3) ∧ ((sX7_field m z1 3) ∧ ((sX7_sizeFor m (fX7_field m z1 3) (fX7_field m z1 3)) ∧ True)))
set_option maxRecDepth 20000 in
theorem ctX7_sizeOfPiece {l : Launch} {G : GM} {K : Nat → Option va_E} {h : List va_E} {m : Md} (hm : HM G K h m) (z1 : Int32) (hs : sX7_sizeOfPiece m z1) : Ct l G mX7_sizeOfPiece 2 0 0 [.ref (gz G + 221), .int z1] h (fun v h1 => v = some (.int (fX7_sizeOfPiece m z1)) ∧ h1 = h) := by
  show Tr l G mX7_sizeOfPiece 2 0 0 0 [(0, .ref (gz G + 221)), (1, .int z1)] [] h _
  unfold sX7_sizeOfPiece at hs
  refine am_aload_n dX7_sizeOfPiece_0 0 rfl ?_
  refine am_aload_n dX7_sizeOfPiece_1 0 rfl ?_
  refine am_iload_n dX7_sizeOfPiece_2 1 rfl ?_
  refine am_iconst (v := 3) dX7_sizeOfPiece_3 (by decide) ?_
  obtain ⟨i1, hs⟩ := hs
  refine am_callV (As := [.int z1, .int 3]) (rest := [.ref (gz G + 221)]) dX7_sizeOfPiece_4 kMX7_60 rfl (hmc221 (m := m) hm) rfl rfl (Nat.le_of_ble_eq_true rfl) (d2 := 1) (by decide) (k2 := 0) (Nat.zero_le _) (u2 := 0) (Nat.zero_le _) (Nat.le_of_ble_eq_true rfl) (ctX7_field (m := m) hm z1 3 i1) (fun v2 h3 q4 => ?_)
  obtain ⟨rfl, rfl⟩ := q4
  refine am_aload_n dX7_sizeOfPiece_7 0 rfl ?_
  refine am_iload_n dX7_sizeOfPiece_8 1 rfl ?_
  refine am_iconst (v := 3) dX7_sizeOfPiece_9 (by decide) ?_
  obtain ⟨i5, hs⟩ := hs
  refine am_callV (As := [.int z1, .int 3]) (rest := [.int (fX7_field m z1 3), .ref (gz G + 221)]) dX7_sizeOfPiece_10 kMX7_60 rfl (hmc221 (m := m) hm) rfl rfl (Nat.le_of_ble_eq_true rfl) (d2 := 1) (by decide) (k2 := 0) (Nat.zero_le _) (u2 := 0) (Nat.zero_le _) (Nat.le_of_ble_eq_true rfl) (ctX7_field (m := m) hm z1 3 i5) (fun v6 h7 q8 => ?_)
  obtain ⟨rfl, rfl⟩ := q8
  obtain ⟨i9, hs⟩ := hs
  refine am_callV (As := [.int (fX7_field m z1 3), .int (fX7_field m z1 3)]) (rest := []) dX7_sizeOfPiece_13 kMX7_95 rfl (hmc221 (m := m) hm) rfl rfl (Nat.le_of_ble_eq_true rfl) (d2 := 0) (by decide) (k2 := 0) (Nat.zero_le _) (u2 := 0) (Nat.zero_le _) (Nat.le_of_ble_eq_true rfl) (ctX7_sizeFor (m := m) hm (fX7_field m z1 3) (fX7_field m z1 3) i9) (fun v10 h11 q12 => ?_)
  obtain ⟨rfl, rfl⟩ := q12
  rw [show (fX7_sizeOfPiece m z1) = (fX7_sizeFor m (fX7_field m z1 3) (fX7_field m z1 3)) from rfl]
  exact am_ireturn dX7_sizeOfPiece_16 rfl rfl ⟨rfl, rfl⟩

theorem dX7_gapOf_0 : decode cX7_gapOf 0 = .ok (.aload_n 0, 1) := by decide +kernel
theorem dX7_gapOf_1 : decode cX7_gapOf 1 = .ok (.iload_n 1, 1) := by decide +kernel
theorem dX7_gapOf_2 : decode cX7_gapOf 2 = .ok (.iconst 3, 1) := by decide +kernel
theorem dX7_gapOf_3 : decode cX7_gapOf 3 = .ok (.invokevirtual 60, 3) := by decide +kernel
theorem dX7_gapOf_6 : decode cX7_gapOf 6 = .ok (.aload_n 0, 1) := by decide +kernel
theorem dX7_gapOf_7 : decode cX7_gapOf 7 = .ok (.iload_n 2, 1) := by decide +kernel
theorem dX7_gapOf_8 : decode cX7_gapOf 8 = .ok (.iconst 3, 1) := by decide +kernel
theorem dX7_gapOf_9 : decode cX7_gapOf 9 = .ok (.invokevirtual 60, 3) := by decide +kernel
theorem dX7_gapOf_12 : decode cX7_gapOf 12 = .ok (.isub, 1) := by decide +kernel
theorem dX7_gapOf_13 : decode cX7_gapOf 13 = .ok (.invokestatic 98, 3) := by decide +kernel
theorem dX7_gapOf_16 : decode cX7_gapOf 16 = .ok (.bipush 10, 2) := by decide +kernel
theorem dX7_gapOf_18 : decode cX7_gapOf 18 = .ok (.aload_n 0, 1) := by decide +kernel
theorem dX7_gapOf_19 : decode cX7_gapOf 19 = .ok (.iload_n 1, 1) := by decide +kernel
theorem dX7_gapOf_20 : decode cX7_gapOf 20 = .ok (.iconst 4, 1) := by decide +kernel
theorem dX7_gapOf_21 : decode cX7_gapOf 21 = .ok (.invokevirtual 60, 3) := by decide +kernel
theorem dX7_gapOf_24 : decode cX7_gapOf 24 = .ok (.aload_n 0, 1) := by decide +kernel
theorem dX7_gapOf_25 : decode cX7_gapOf 25 = .ok (.iload_n 2, 1) := by decide +kernel
theorem dX7_gapOf_26 : decode cX7_gapOf 26 = .ok (.iconst 4, 1) := by decide +kernel
theorem dX7_gapOf_27 : decode cX7_gapOf 27 = .ok (.invokevirtual 60, 3) := by decide +kernel
theorem dX7_gapOf_30 : decode cX7_gapOf 30 = .ok (.isub, 1) := by decide +kernel
theorem dX7_gapOf_31 : decode cX7_gapOf 31 = .ok (.invokestatic 98, 3) := by decide +kernel
theorem dX7_gapOf_34 : decode cX7_gapOf 34 = .ok (.imul, 1) := by decide +kernel
theorem dX7_gapOf_35 : decode cX7_gapOf 35 = .ok (.iadd, 1) := by decide +kernel
theorem dX7_gapOf_36 : decode cX7_gapOf 36 = .ok (.ireturn, 1) := by decide +kernel
def fX7_gapOf (m : Md) (z1 : Int32) (z2 : Int32) : Int32 := ((iab ((fX7_field m z1 3) - (fX7_field m z2 3))) + ((10 : Int32) * (iab ((fX7_field m z1 4) - (fX7_field m z2 4)))))
def sX7_gapOf (m : Md) (z1 : Int32) (z2 : Int32) : Prop := ((sX7_field m z1 3) ∧ ((sX7_field m z2 3) ∧ ((sX7_field m z1 4) ∧ ((sX7_field m z2 4) ∧ True))))
set_option maxRecDepth 20000 in
theorem ctX7_gapOf {l : Launch} {G : GM} {K : Nat → Option va_E} {h : List va_E} {m : Md} (hm : HM G K h m) (z1 : Int32) (z2 : Int32) (hs : sX7_gapOf m z1 z2) : Ct l G mX7_gapOf 2 0 0 [.ref (gz G + 221), .int z1, .int z2] h (fun v h1 => v = some (.int (fX7_gapOf m z1 z2)) ∧ h1 = h) := by
  show Tr l G mX7_gapOf 2 0 0 0 [(0, .ref (gz G + 221)), (1, .int z1), (2, .int z2)] [] h _
  unfold sX7_gapOf at hs
  refine am_aload_n dX7_gapOf_0 0 rfl ?_
  refine am_iload_n dX7_gapOf_1 1 rfl ?_
  refine am_iconst (v := 3) dX7_gapOf_2 (by decide) ?_
  obtain ⟨i1, hs⟩ := hs
  refine am_callV (As := [.int z1, .int 3]) (rest := []) dX7_gapOf_3 kMX7_60 rfl (hmc221 (m := m) hm) rfl rfl (Nat.le_of_ble_eq_true rfl) (d2 := 1) (by decide) (k2 := 0) (Nat.zero_le _) (u2 := 0) (Nat.zero_le _) (Nat.le_of_ble_eq_true rfl) (ctX7_field (m := m) hm z1 3 i1) (fun v2 h3 q4 => ?_)
  obtain ⟨rfl, rfl⟩ := q4
  refine am_aload_n dX7_gapOf_6 0 rfl ?_
  refine am_iload_n dX7_gapOf_7 2 rfl ?_
  refine am_iconst (v := 3) dX7_gapOf_8 (by decide) ?_
  obtain ⟨i5, hs⟩ := hs
  refine am_callV (As := [.int z2, .int 3]) (rest := [.int (fX7_field m z1 3)]) dX7_gapOf_9 kMX7_60 rfl (hmc221 (m := m) hm) rfl rfl (Nat.le_of_ble_eq_true rfl) (d2 := 1) (by decide) (k2 := 0) (Nat.zero_le _) (u2 := 0) (Nat.zero_le _) (Nat.le_of_ble_eq_true rfl) (ctX7_field (m := m) hm z2 3 i5) (fun v6 h7 q8 => ?_)
  obtain ⟨rfl, rfl⟩ := q8
  refine am_isub dX7_gapOf_12 ?_
  refine am_mabs dX7_gapOf_13 kXX7_98 (Nat.le_of_ble_eq_true rfl) (by decide) ?_
  refine am_bipush (v := 10) dX7_gapOf_16 (by decide) ?_
  refine am_aload_n dX7_gapOf_18 0 rfl ?_
  refine am_iload_n dX7_gapOf_19 1 rfl ?_
  refine am_iconst (v := 4) dX7_gapOf_20 (by decide) ?_
  obtain ⟨i9, hs⟩ := hs
  refine am_callV (As := [.int z1, .int 4]) (rest := [.int 10, .int (iab ((fX7_field m z1 3) - (fX7_field m z2 3)))]) dX7_gapOf_21 kMX7_60 rfl (hmc221 (m := m) hm) rfl rfl (Nat.le_of_ble_eq_true rfl) (d2 := 1) (by decide) (k2 := 0) (Nat.zero_le _) (u2 := 0) (Nat.zero_le _) (Nat.le_of_ble_eq_true rfl) (ctX7_field (m := m) hm z1 4 i9) (fun v10 h11 q12 => ?_)
  obtain ⟨rfl, rfl⟩ := q12
  refine am_aload_n dX7_gapOf_24 0 rfl ?_
  refine am_iload_n dX7_gapOf_25 2 rfl ?_
  refine am_iconst (v := 4) dX7_gapOf_26 (by decide) ?_
  obtain ⟨i13, hs⟩ := hs
  refine am_callV (As := [.int z2, .int 4]) (rest := [.int (fX7_field m z1 4), .int 10, .int (iab ((fX7_field m z1 3) - (fX7_field m z2 3)))]) dX7_gapOf_27 kMX7_60 rfl (hmc221 (m := m) hm) rfl rfl (Nat.le_of_ble_eq_true rfl) (d2 := 1) (by decide) (k2 := 0) (Nat.zero_le _) (u2 := 0) (Nat.zero_le _) (Nat.le_of_ble_eq_true rfl) (ctX7_field (m := m) hm z2 4 i13) (fun v14 h15 q16 => ?_)
  obtain ⟨rfl, rfl⟩ := q16
  refine am_isub dX7_gapOf_30 ?_
  refine am_mabs dX7_gapOf_31 kXX7_98 (Nat.le_of_ble_eq_true rfl) (by decide) ?_
  refine am_imul dX7_gapOf_34 ?_
  refine am_iadd dX7_gapOf_35 ?_
  rw [show (fX7_gapOf m z1 z2) = ((iab ((fX7_field m z1 3) - (fX7_field m z2 3))) + ((10 : Int32) * (iab ((fX7_field m z1 4) - (fX7_field m z2 4))))) from rfl]
  exact am_ireturn dX7_gapOf_36 rfl rfl ⟨rfl, rfl⟩

theorem dX7_areMatch_0 : decode cX7_areMatch 0 = .ok (.iload_n 1, 1) := by decide +kernel
theorem dX7_areMatch_1 : decode cX7_areMatch 1 = .ok (.iload_n 2, 1) := by decide +kernel
theorem dX7_areMatch_2 : decode cX7_areMatch 2 = .ok (.if_icmp .eq 51, 3) := by decide +kernel
theorem dX7_areMatch_5 : decode cX7_areMatch 5 = .ok (.aload_n 0, 1) := by decide +kernel
theorem dX7_areMatch_6 : decode cX7_areMatch 6 = .ok (.iload_n 1, 1) := by decide +kernel
theorem dX7_areMatch_7 : decode cX7_areMatch 7 = .ok (.iconst 1, 1) := by decide +kernel
theorem dX7_areMatch_8 : decode cX7_areMatch 8 = .ok (.invokevirtual 89, 3) := by decide +kernel
theorem dX7_areMatch_11 : decode cX7_areMatch 11 = .ok (.ifCond .eq 42, 3) := by decide +kernel
theorem dX7_areMatch_14 : decode cX7_areMatch 14 = .ok (.aload_n 0, 1) := by decide +kernel
theorem dX7_areMatch_15 : decode cX7_areMatch 15 = .ok (.iload_n 2, 1) := by decide +kernel
theorem dX7_areMatch_16 : decode cX7_areMatch 16 = .ok (.iconst 1, 1) := by decide +kernel
theorem dX7_areMatch_17 : decode cX7_areMatch 17 = .ok (.invokevirtual 89, 3) := by decide +kernel
theorem dX7_areMatch_20 : decode cX7_areMatch 20 = .ok (.ifCond .eq 33, 3) := by decide +kernel
theorem dX7_areMatch_23 : decode cX7_areMatch 23 = .ok (.aload_n 0, 1) := by decide +kernel
theorem dX7_areMatch_24 : decode cX7_areMatch 24 = .ok (.iload_n 1, 1) := by decide +kernel
theorem dX7_areMatch_25 : decode cX7_areMatch 25 = .ok (.iconst 0, 1) := by decide +kernel
theorem dX7_areMatch_26 : decode cX7_areMatch 26 = .ok (.invokevirtual 60, 3) := by decide +kernel
theorem dX7_areMatch_29 : decode cX7_areMatch 29 = .ok (.aload_n 0, 1) := by decide +kernel
theorem dX7_areMatch_30 : decode cX7_areMatch 30 = .ok (.iload_n 2, 1) := by decide +kernel
theorem dX7_areMatch_31 : decode cX7_areMatch 31 = .ok (.iconst 0, 1) := by decide +kernel
theorem dX7_areMatch_32 : decode cX7_areMatch 32 = .ok (.invokevirtual 60, 3) := by decide +kernel
theorem dX7_areMatch_35 : decode cX7_areMatch 35 = .ok (.if_icmp .ne 18, 3) := by decide +kernel
theorem dX7_areMatch_38 : decode cX7_areMatch 38 = .ok (.aload_n 0, 1) := by decide +kernel
theorem dX7_areMatch_39 : decode cX7_areMatch 39 = .ok (.iload_n 1, 1) := by decide +kernel
theorem dX7_areMatch_40 : decode cX7_areMatch 40 = .ok (.iconst 1, 1) := by decide +kernel
theorem dX7_areMatch_41 : decode cX7_areMatch 41 = .ok (.invokevirtual 60, 3) := by decide +kernel
theorem dX7_areMatch_44 : decode cX7_areMatch 44 = .ok (.aload_n 0, 1) := by decide +kernel
theorem dX7_areMatch_45 : decode cX7_areMatch 45 = .ok (.iload_n 2, 1) := by decide +kernel
theorem dX7_areMatch_46 : decode cX7_areMatch 46 = .ok (.iconst 1, 1) := by decide +kernel
theorem dX7_areMatch_47 : decode cX7_areMatch 47 = .ok (.invokevirtual 60, 3) := by decide +kernel
theorem dX7_areMatch_50 : decode cX7_areMatch 50 = .ok (.if_icmp .eq 5, 3) := by decide +kernel
theorem dX7_areMatch_53 : decode cX7_areMatch 53 = .ok (.iconst 0, 1) := by decide +kernel
theorem dX7_areMatch_54 : decode cX7_areMatch 54 = .ok (.ireturn, 1) := by decide +kernel
theorem dX7_areMatch_55 : decode cX7_areMatch 55 = .ok (.aload_n 0, 1) := by decide +kernel
theorem dX7_areMatch_56 : decode cX7_areMatch 56 = .ok (.iload_n 1, 1) := by decide +kernel
theorem dX7_areMatch_57 : decode cX7_areMatch 57 = .ok (.iconst 3, 1) := by decide +kernel
theorem dX7_areMatch_58 : decode cX7_areMatch 58 = .ok (.invokevirtual 60, 3) := by decide +kernel
theorem dX7_areMatch_61 : decode cX7_areMatch 61 = .ok (.aload_n 0, 1) := by decide +kernel
theorem dX7_areMatch_62 : decode cX7_areMatch 62 = .ok (.iload_n 2, 1) := by decide +kernel
theorem dX7_areMatch_63 : decode cX7_areMatch 63 = .ok (.iconst 3, 1) := by decide +kernel
theorem dX7_areMatch_64 : decode cX7_areMatch 64 = .ok (.invokevirtual 60, 3) := by decide +kernel
theorem dX7_areMatch_67 : decode cX7_areMatch 67 = .ok (.isub, 1) := by decide +kernel
theorem dX7_areMatch_68 : decode cX7_areMatch 68 = .ok (.invokestatic 98, 3) := by decide +kernel
theorem dX7_areMatch_71 : decode cX7_areMatch 71 = .ok (.aload_n 0, 1) := by decide +kernel
theorem dX7_areMatch_72 : decode cX7_areMatch 72 = .ok (.getfield 23, 3) := by decide +kernel
theorem dX7_areMatch_75 : decode cX7_areMatch 75 = .ok (.iconst 0, 1) := by decide +kernel
theorem dX7_areMatch_76 : decode cX7_areMatch 76 = .ok (.iaload, 1) := by decide +kernel
theorem dX7_areMatch_77 : decode cX7_areMatch 77 = .ok (.if_icmp .gt 32, 3) := by decide +kernel
theorem dX7_areMatch_80 : decode cX7_areMatch 80 = .ok (.aload_n 0, 1) := by decide +kernel
theorem dX7_areMatch_81 : decode cX7_areMatch 81 = .ok (.iload_n 1, 1) := by decide +kernel
theorem dX7_areMatch_82 : decode cX7_areMatch 82 = .ok (.iconst 4, 1) := by decide +kernel
theorem dX7_areMatch_83 : decode cX7_areMatch 83 = .ok (.invokevirtual 60, 3) := by decide +kernel
theorem dX7_areMatch_86 : decode cX7_areMatch 86 = .ok (.aload_n 0, 1) := by decide +kernel
theorem dX7_areMatch_87 : decode cX7_areMatch 87 = .ok (.iload_n 2, 1) := by decide +kernel
theorem dX7_areMatch_88 : decode cX7_areMatch 88 = .ok (.iconst 4, 1) := by decide +kernel
theorem dX7_areMatch_89 : decode cX7_areMatch 89 = .ok (.invokevirtual 60, 3) := by decide +kernel
theorem dX7_areMatch_92 : decode cX7_areMatch 92 = .ok (.isub, 1) := by decide +kernel
theorem dX7_areMatch_93 : decode cX7_areMatch 93 = .ok (.invokestatic 98, 3) := by decide +kernel
theorem dX7_areMatch_96 : decode cX7_areMatch 96 = .ok (.aload_n 0, 1) := by decide +kernel
theorem dX7_areMatch_97 : decode cX7_areMatch 97 = .ok (.getfield 23, 3) := by decide +kernel
theorem dX7_areMatch_100 : decode cX7_areMatch 100 = .ok (.iconst 1, 1) := by decide +kernel
theorem dX7_areMatch_101 : decode cX7_areMatch 101 = .ok (.iaload, 1) := by decide +kernel
theorem dX7_areMatch_102 : decode cX7_areMatch 102 = .ok (.if_icmp .gt 7, 3) := by decide +kernel
theorem dX7_areMatch_105 : decode cX7_areMatch 105 = .ok (.iconst 1, 1) := by decide +kernel
theorem dX7_areMatch_106 : decode cX7_areMatch 106 = .ok (.goto 4, 3) := by decide +kernel
theorem dX7_areMatch_109 : decode cX7_areMatch 109 = .ok (.iconst 0, 1) := by decide +kernel
theorem dX7_areMatch_110 : decode cX7_areMatch 110 = .ok (.ireturn, 1) := by decide +kernel
def fX7_areMatch (m : Md) (z1 : Int32) (z2 : Int32) : Int32 := (if z1 = z2 then 0 else (if (fX7_isIn m z1 1) = 0 then 0 else (if (fX7_isIn m z2 1) = 0 then 0 else (if (fX7_field m z1 0) = (fX7_field m z2 0) then (if (fX7_field m z1 1) = (fX7_field m z2 1) then (if ((m.2.1 (m.2.2)) 0) < (iab ((fX7_field m z1 3) - (fX7_field m z2 3))) then 0 else (if ((m.2.1 (m.2.2)) 1) < (iab ((fX7_field m z1 4) - (fX7_field m z2 4))) then 0 else 1)) else 0) else 0))))
def sX7_areMatch (m : Md) (z1 : Int32) (z2 : Int32) : Prop := ((z1 = z2 → True) ∧ (¬ z1 = z2 → ((sX7_isIn m z1 1) ∧ (((fX7_isIn m z1 1) = 0 → True) ∧ (¬ (fX7_isIn m z1 1) = 0 → ((sX7_isIn m z2 1) ∧ (((fX7_isIn m z2 1) = 0 → True) ∧ (¬ (fX7_isIn m z2 1) = 0 → ((sX7_field m z1 0) ∧ ((sX7_field m z2 0) ∧ (((fX7_field m z1 0) = (fX7_field m z2 0) → ((sX7_field m z1 1) ∧ ((sX7_field m z2 1) ∧ (((fX7_field m z1 1) = (fX7_field m z2 1) → ((sX7_field m z1 3) ∧ ((sX7_field m z2 3) ∧ ((((m.2.1 (m.2.2)) 0) < (iab ((fX7_field m z1 3) - (fX7_field m z2 3))) → True) ∧ (¬ ((m.2.1 (m.2.2)) 0) < (iab ((fX7_field m z1 3) - (fX7_field m z2 3))) → ((sX7_field m z1 4) ∧ ((sX7_field m z2 4) ∧ ((((m.2.1 (m.2.2)) 1) < (iab ((fX7_field m z1 4) - (fX7_field m z2 4))) → True) ∧ (¬ ((m.2.1 (m.2.2)) 1) < (iab ((fX7_field m z1 4) - (fX7_field m z2 4))) → True))))))))) ∧ (¬ (fX7_field m z1 1) = (fX7_field m z2 1) → True))))) ∧ (¬ (fX7_field m z1 0) = (fX7_field m z2 0) → True))))))))))))
set_option maxRecDepth 20000 in
theorem ctX7_areMatch {l : Launch} {G : GM} {K : Nat → Option va_E} {h : List va_E} {m : Md} (hm : HM G K h m) (z1 : Int32) (z2 : Int32) (hs : sX7_areMatch m z1 z2) : Ct l G mX7_areMatch 3 0 0 [.ref (gz G + 221), .int z1, .int z2] h (fun v h1 => v = some (.int (fX7_areMatch m z1 z2)) ∧ h1 = h) := by
  show Tr l G mX7_areMatch 3 0 0 0 [(0, .ref (gz G + 221)), (1, .int z1), (2, .int z2)] [] h _
  unfold sX7_areMatch at hs
  refine am_iload_n dX7_areMatch_0 1 rfl ?_
  refine am_iload_n dX7_areMatch_1 2 rfl ?_
  refine am_icmp_eq dX7_areMatch_2 (by decide : ((2 : Nat) : Int) + (51) = ((53 : Nat) : Int)) (fun c1 => ?_) (fun c1 => ?_)
  · have hs := hs.1 c1
    refine am_iconst (v := 0) dX7_areMatch_53 (by decide) ?_
    rw [show (fX7_areMatch m z1 z2) = 0 from ifp c1 (rfl)]
    exact am_ireturn dX7_areMatch_54 rfl rfl ⟨rfl, rfl⟩
  · have hs := hs.2 c1
    refine am_aload_n dX7_areMatch_5 0 rfl ?_
    refine am_iload_n dX7_areMatch_6 1 rfl ?_
    refine am_iconst (v := 1) dX7_areMatch_7 (by decide) ?_
    obtain ⟨i2, hs⟩ := hs
    refine am_callV (As := [.int z1, .int 1]) (rest := []) dX7_areMatch_8 kMX7_89 rfl (hmc221 (m := m) hm) rfl rfl (Nat.le_of_ble_eq_true rfl) (d2 := 2) (by decide) (k2 := 0) (Nat.zero_le _) (u2 := 0) (Nat.zero_le _) (Nat.le_of_ble_eq_true rfl) (ctX7_isIn (m := m) hm z1 1 i2) (fun v3 h4 q5 => ?_)
    obtain ⟨rfl, rfl⟩ := q5
    refine am_if_eq dX7_areMatch_11 (by decide : ((11 : Nat) : Int) + (42) = ((53 : Nat) : Int)) (fun c6 => ?_) (fun c6 => ?_)
    · have hs := hs.1 c6
      refine am_iconst (v := 0) dX7_areMatch_53 (by decide) ?_
      rw [show (fX7_areMatch m z1 z2) = 0 from ifn c1 (ifp c6 (rfl))]
      exact am_ireturn dX7_areMatch_54 rfl rfl ⟨rfl, rfl⟩
    · have hs := hs.2 c6
      refine am_aload_n dX7_areMatch_14 0 rfl ?_
      refine am_iload_n dX7_areMatch_15 2 rfl ?_
      refine am_iconst (v := 1) dX7_areMatch_16 (by decide) ?_
      obtain ⟨i7, hs⟩ := hs
      refine am_callV (As := [.int z2, .int 1]) (rest := []) dX7_areMatch_17 kMX7_89 rfl (hmc221 (m := m) hm) rfl rfl (Nat.le_of_ble_eq_true rfl) (d2 := 2) (by decide) (k2 := 0) (Nat.zero_le _) (u2 := 0) (Nat.zero_le _) (Nat.le_of_ble_eq_true rfl) (ctX7_isIn (m := m) hm z2 1 i7) (fun v8 h9 q10 => ?_)
      obtain ⟨rfl, rfl⟩ := q10
      refine am_if_eq dX7_areMatch_20 (by decide : ((20 : Nat) : Int) + (33) = ((53 : Nat) : Int)) (fun c11 => ?_) (fun c11 => ?_)
      · have hs := hs.1 c11
        refine am_iconst (v := 0) dX7_areMatch_53 (by decide) ?_
        rw [show (fX7_areMatch m z1 z2) = 0 from ifn c1 (ifn c6 (ifp c11 (rfl)))]
        exact am_ireturn dX7_areMatch_54 rfl rfl ⟨rfl, rfl⟩
      · have hs := hs.2 c11
        refine am_aload_n dX7_areMatch_23 0 rfl ?_
        refine am_iload_n dX7_areMatch_24 1 rfl ?_
        refine am_iconst (v := 0) dX7_areMatch_25 (by decide) ?_
        obtain ⟨i12, hs⟩ := hs
        refine am_callV (As := [.int z1, .int 0]) (rest := []) dX7_areMatch_26 kMX7_60 rfl (hmc221 (m := m) hm) rfl rfl (Nat.le_of_ble_eq_true rfl) (d2 := 1) (by decide) (k2 := 0) (Nat.zero_le _) (u2 := 0) (Nat.zero_le _) (Nat.le_of_ble_eq_true rfl) (ctX7_field (m := m) hm z1 0 i12) (fun v13 h14 q15 => ?_)
        obtain ⟨rfl, rfl⟩ := q15
        refine am_aload_n dX7_areMatch_29 0 rfl ?_
        refine am_iload_n dX7_areMatch_30 2 rfl ?_
        refine am_iconst (v := 0) dX7_areMatch_31 (by decide) ?_
        obtain ⟨i16, hs⟩ := hs
        refine am_callV (As := [.int z2, .int 0]) (rest := [.int (fX7_field m z1 0)]) dX7_areMatch_32 kMX7_60 rfl (hmc221 (m := m) hm) rfl rfl (Nat.le_of_ble_eq_true rfl) (d2 := 1) (by decide) (k2 := 0) (Nat.zero_le _) (u2 := 0) (Nat.zero_le _) (Nat.le_of_ble_eq_true rfl) (ctX7_field (m := m) hm z2 0 i16) (fun v17 h18 q19 => ?_)
        obtain ⟨rfl, rfl⟩ := q19
        refine am_icmp_ne dX7_areMatch_35 (by decide : ((35 : Nat) : Int) + (18) = ((53 : Nat) : Int)) (fun c20 => ?_) (fun c20 => ?_)
        · have hs := hs.2 c20
          refine am_iconst (v := 0) dX7_areMatch_53 (by decide) ?_
          rw [show (fX7_areMatch m z1 z2) = 0 from ifn c1 (ifn c6 (ifn c11 (ifn c20 (rfl))))]
          exact am_ireturn dX7_areMatch_54 rfl rfl ⟨rfl, rfl⟩
        · have hs := hs.1 c20
          refine am_aload_n dX7_areMatch_38 0 rfl ?_
          refine am_iload_n dX7_areMatch_39 1 rfl ?_
          refine am_iconst (v := 1) dX7_areMatch_40 (by decide) ?_
          obtain ⟨i21, hs⟩ := hs
          refine am_callV (As := [.int z1, .int 1]) (rest := []) dX7_areMatch_41 kMX7_60 rfl (hmc221 (m := m) hm) rfl rfl (Nat.le_of_ble_eq_true rfl) (d2 := 1) (by decide) (k2 := 0) (Nat.zero_le _) (u2 := 0) (Nat.zero_le _) (Nat.le_of_ble_eq_true rfl) (ctX7_field (m := m) hm z1 1 i21) (fun v22 h23 q24 => ?_)
          obtain ⟨rfl, rfl⟩ := q24
          refine am_aload_n dX7_areMatch_44 0 rfl ?_
          refine am_iload_n dX7_areMatch_45 2 rfl ?_
          refine am_iconst (v := 1) dX7_areMatch_46 (by decide) ?_
          obtain ⟨i25, hs⟩ := hs
          refine am_callV (As := [.int z2, .int 1]) (rest := [.int (fX7_field m z1 1)]) dX7_areMatch_47 kMX7_60 rfl (hmc221 (m := m) hm) rfl rfl (Nat.le_of_ble_eq_true rfl) (d2 := 1) (by decide) (k2 := 0) (Nat.zero_le _) (u2 := 0) (Nat.zero_le _) (Nat.le_of_ble_eq_true rfl) (ctX7_field (m := m) hm z2 1 i25) (fun v26 h27 q28 => ?_)
          obtain ⟨rfl, rfl⟩ := q28
          refine am_icmp_eq dX7_areMatch_50 (by decide : ((50 : Nat) : Int) + (5) = ((55 : Nat) : Int)) (fun c29 => ?_) (fun c29 => ?_)
          · have hs := hs.1 c29
            refine am_aload_n dX7_areMatch_55 0 rfl ?_
            refine am_iload_n dX7_areMatch_56 1 rfl ?_
            refine am_iconst (v := 3) dX7_areMatch_57 (by decide) ?_
            obtain ⟨i30, hs⟩ := hs
            refine am_callV (As := [.int z1, .int 3]) (rest := []) dX7_areMatch_58 kMX7_60 rfl (hmc221 (m := m) hm) rfl rfl (Nat.le_of_ble_eq_true rfl) (d2 := 1) (by decide) (k2 := 0) (Nat.zero_le _) (u2 := 0) (Nat.zero_le _) (Nat.le_of_ble_eq_true rfl) (ctX7_field (m := m) hm z1 3 i30) (fun v31 h32 q33 => ?_)
            obtain ⟨rfl, rfl⟩ := q33
            refine am_aload_n dX7_areMatch_61 0 rfl ?_
            refine am_iload_n dX7_areMatch_62 2 rfl ?_
            refine am_iconst (v := 3) dX7_areMatch_63 (by decide) ?_
            obtain ⟨i34, hs⟩ := hs
            refine am_callV (As := [.int z2, .int 3]) (rest := [.int (fX7_field m z1 3)]) dX7_areMatch_64 kMX7_60 rfl (hmc221 (m := m) hm) rfl rfl (Nat.le_of_ble_eq_true rfl) (d2 := 1) (by decide) (k2 := 0) (Nat.zero_le _) (u2 := 0) (Nat.zero_le _) (Nat.le_of_ble_eq_true rfl) (ctX7_field (m := m) hm z2 3 i34) (fun v35 h36 q37 => ?_)
            obtain ⟨rfl, rfl⟩ := q37
            refine am_isub dX7_areMatch_67 ?_
            refine am_mabs dX7_areMatch_68 kXX7_98 (Nat.le_of_ble_eq_true rfl) (by decide) ?_
            refine am_aload_n dX7_areMatch_71 0 rfl ?_
            refine am_get (v := .ref (gz G + (222 + (m.2.2)))) dX7_areMatch_72 kGX7_23 (hmc221 (m := m) hm) rfl ?_
            refine am_iconst (v := 0) dX7_areMatch_75 (by decide) ?_
            refine am_iald (f := (m.2.1 (m.2.2))) dX7_areMatch_76 (hmN (m := m) hm) (vp_lit (by decide)) ?_
            rw [tl0]
            refine am_icmp_gt dX7_areMatch_77 (by decide : ((77 : Nat) : Int) + (32) = ((109 : Nat) : Int)) (fun c38 => ?_) (fun c38 => ?_)
            · have hs := hs.1 c38
              refine am_iconst (v := 0) dX7_areMatch_109 (by decide) ?_
              rw [show (fX7_areMatch m z1 z2) = 0 from ifn c1 (ifn c6 (ifn c11 (ifp c20 (ifp c29 (ifp c38 (rfl))))))]
              exact am_ireturn dX7_areMatch_110 rfl rfl ⟨rfl, rfl⟩
            · have hs := hs.2 c38
              refine am_aload_n dX7_areMatch_80 0 rfl ?_
              refine am_iload_n dX7_areMatch_81 1 rfl ?_
              refine am_iconst (v := 4) dX7_areMatch_82 (by decide) ?_
              obtain ⟨i39, hs⟩ := hs
              refine am_callV (As := [.int z1, .int 4]) (rest := []) dX7_areMatch_83 kMX7_60 rfl (hmc221 (m := m) hm) rfl rfl (Nat.le_of_ble_eq_true rfl) (d2 := 1) (by decide) (k2 := 0) (Nat.zero_le _) (u2 := 0) (Nat.zero_le _) (Nat.le_of_ble_eq_true rfl) (ctX7_field (m := m) hm z1 4 i39) (fun v40 h41 q42 => ?_)
              obtain ⟨rfl, rfl⟩ := q42
              refine am_aload_n dX7_areMatch_86 0 rfl ?_
              refine am_iload_n dX7_areMatch_87 2 rfl ?_
              refine am_iconst (v := 4) dX7_areMatch_88 (by decide) ?_
              obtain ⟨i43, hs⟩ := hs
              refine am_callV (As := [.int z2, .int 4]) (rest := [.int (fX7_field m z1 4)]) dX7_areMatch_89 kMX7_60 rfl (hmc221 (m := m) hm) rfl rfl (Nat.le_of_ble_eq_true rfl) (d2 := 1) (by decide) (k2 := 0) (Nat.zero_le _) (u2 := 0) (Nat.zero_le _) (Nat.le_of_ble_eq_true rfl) (ctX7_field (m := m) hm z2 4 i43) (fun v44 h45 q46 => ?_)
              obtain ⟨rfl, rfl⟩ := q46
              refine am_isub dX7_areMatch_92 ?_
              refine am_mabs dX7_areMatch_93 kXX7_98 (Nat.le_of_ble_eq_true rfl) (by decide) ?_
              refine am_aload_n dX7_areMatch_96 0 rfl ?_
              refine am_get (v := .ref (gz G + (222 + (m.2.2)))) dX7_areMatch_97 kGX7_23 (hmc221 (m := m) hm) rfl ?_
              refine am_iconst (v := 1) dX7_areMatch_100 (by decide) ?_
              refine am_iald (f := (m.2.1 (m.2.2))) dX7_areMatch_101 (hmN (m := m) hm) (vp_lit (by decide)) ?_
              rw [tl1]
              refine am_icmp_gt dX7_areMatch_102 (by decide : ((102 : Nat) : Int) + (7) = ((109 : Nat) : Int)) (fun c47 => ?_) (fun c47 => ?_)
              · have hs := hs.1 c47
                refine am_iconst (v := 0) dX7_areMatch_109 (by decide) ?_
                rw [show (fX7_areMatch m z1 z2) = 0 from ifn c1 (ifn c6 (ifn c11 (ifp c20 (ifp c29 (ifn c38 (ifp c47 (rfl)))))))]
                exact am_ireturn dX7_areMatch_110 rfl rfl ⟨rfl, rfl⟩
              · have hs := hs.2 c47
                refine am_iconst (v := 1) dX7_areMatch_105 (by decide) ?_
                refine am_goto dX7_areMatch_106 (by decide : ((106 : Nat) : Int) + (4) = ((110 : Nat) : Int)) ?_
                rw [show (fX7_areMatch m z1 z2) = 1 from ifn c1 (ifn c6 (ifn c11 (ifp c20 (ifp c29 (ifn c38 (ifn c47 (rfl)))))))]
                exact am_ireturn dX7_areMatch_110 rfl rfl ⟨rfl, rfl⟩
          · have hs := hs.2 c29
            refine am_iconst (v := 0) dX7_areMatch_53 (by decide) ?_
            rw [show (fX7_areMatch m z1 z2) = 0 from ifn c1 (ifn c6 (ifn c11 (ifp c20 (ifn c29 (rfl)))))]
            exact am_ireturn dX7_areMatch_54 rfl rfl ⟨rfl, rfl⟩

theorem dX7_matchesOf_0 : decode cX7_matchesOf 0 = .ok (.iconst 0, 1) := by decide +kernel
theorem dX7_matchesOf_1 : decode cX7_matchesOf 1 = .ok (.istore_n 2, 1) := by decide +kernel
theorem dX7_matchesOf_2 : decode cX7_matchesOf 2 = .ok (.iconst 0, 1) := by decide +kernel
theorem dX7_matchesOf_3 : decode cX7_matchesOf 3 = .ok (.istore_n 3, 1) := by decide +kernel
theorem dX7_matchesOf_4 : decode cX7_matchesOf 4 = .ok (.iload_n 3, 1) := by decide +kernel
theorem dX7_matchesOf_5 : decode cX7_matchesOf 5 = .ok (.aload_n 0, 1) := by decide +kernel
theorem dX7_matchesOf_6 : decode cX7_matchesOf 6 = .ok (.invokevirtual 85, 3) := by decide +kernel
theorem dX7_matchesOf_9 : decode cX7_matchesOf 9 = .ok (.if_icmp .ge 28, 3) := by decide +kernel
theorem dX7_matchesOf_12 : decode cX7_matchesOf 12 = .ok (.iload_n 2, 1) := by decide +kernel
theorem dX7_matchesOf_13 : decode cX7_matchesOf 13 = .ok (.aload_n 0, 1) := by decide +kernel
theorem dX7_matchesOf_14 : decode cX7_matchesOf 14 = .ok (.iload_n 1, 1) := by decide +kernel
theorem dX7_matchesOf_15 : decode cX7_matchesOf 15 = .ok (.iload_n 3, 1) := by decide +kernel
theorem dX7_matchesOf_16 : decode cX7_matchesOf 16 = .ok (.invokevirtual 101, 3) := by decide +kernel
theorem dX7_matchesOf_19 : decode cX7_matchesOf 19 = .ok (.ifCond .eq 9, 3) := by decide +kernel
theorem dX7_matchesOf_22 : decode cX7_matchesOf 22 = .ok (.iconst 1, 1) := by decide +kernel
theorem dX7_matchesOf_23 : decode cX7_matchesOf 23 = .ok (.iload_n 3, 1) := by decide +kernel
theorem dX7_matchesOf_24 : decode cX7_matchesOf 24 = .ok (.ishl, 1) := by decide +kernel
theorem dX7_matchesOf_25 : decode cX7_matchesOf 25 = .ok (.goto 4, 3) := by decide +kernel
theorem dX7_matchesOf_28 : decode cX7_matchesOf 28 = .ok (.iconst 0, 1) := by decide +kernel
theorem dX7_matchesOf_29 : decode cX7_matchesOf 29 = .ok (.ior, 1) := by decide +kernel
theorem dX7_matchesOf_30 : decode cX7_matchesOf 30 = .ok (.istore_n 2, 1) := by decide +kernel
theorem dX7_matchesOf_31 : decode cX7_matchesOf 31 = .ok (.iinc 3 1, 3) := by decide +kernel
theorem dX7_matchesOf_34 : decode cX7_matchesOf 34 = .ok (.goto (-30), 3) := by decide +kernel
theorem dX7_matchesOf_37 : decode cX7_matchesOf 37 = .ok (.iload_n 2, 1) := by decide +kernel
theorem dX7_matchesOf_38 : decode cX7_matchesOf 38 = .ok (.ireturn, 1) := by decide +kernel
def fX7_matchesOf_4 (z1 : Int32)  (m : Md) : Nat → Int32 → Int32 → Int32 × Int32
  | 0, x3, x2 => (x3, x2)
  | fu + 1, x3, x2 => (if (fX7_count m ) ≤ x3 then (x3, x2) else (if (fX7_areMatch m z1 x3) = 0 then (fX7_matchesOf_4 z1  m fu (x3 + 1) (x2 ||| 0) ) else (fX7_matchesOf_4 z1  m fu (x3 + 1) (x2 ||| ((1 : Int32) <<< (x3 &&& 31))) )))
def sX7_matchesOf_4 (z1 : Int32)  (m : Md) : Nat → Int32 → Int32 → Prop
  | 0, _, _ => True
  | fu + 1, x3, x2 => (((fX7_count m ) ≤ x3 → True) ∧ (¬ (fX7_count m ) ≤ x3 → ((sX7_areMatch m z1 x3) ∧ (((fX7_areMatch m z1 x3) = 0 → (sX7_matchesOf_4 z1  m fu (x3 + 1) (x2 ||| 0) )) ∧ (¬ (fX7_areMatch m z1 x3) = 0 → (sX7_matchesOf_4 z1  m fu (x3 + 1) (x2 ||| ((1 : Int32) <<< (x3 &&& 31))) ))))))
set_option maxRecDepth 20000 in
theorem wX7_matchesOf_4 {l : Launch} {G : GM} {K : Nat → Option va_E} (z1 : Int32)   {h : List va_E} {m : Md} (hm : HM G K h m) {Q : Option Value → List va_E → Prop} : ∀ (fu : Nat) (x3 x2 : Int32) (iv : ivU (fX7_count m ) x3 fu) (hs : sX7_matchesOf_4 z1  m fu x3 x2 ) (kx : ∀ (r : Int32 × Int32), (fX7_matchesOf_4 z1  m fu x3 x2 ) = r → Tr l G mX7_matchesOf 4 0 0 37 [(3, .int r.1), (2, .int r.2), (0, .ref (gz G + 221)), (1, .int z1)] [] h Q), Tr l G mX7_matchesOf 4 0 0 4 [(3, .int x3), (2, .int x2), (0, .ref (gz G + 221)), (1, .int z1)] [] h Q := by
  intro fu
  induction fu with
  | zero => intro x3 x2 iv; intros; exact absurd iv ivU_0
  | succ fu ih =>
    intro x3 x2 iv hs    kx
    rw [sX7_matchesOf_4] at hs
    refine am_iload_n dX7_matchesOf_4 0 rfl ?_
    refine am_aload_n dX7_matchesOf_5 2 rfl ?_
    refine am_callV (As := []) (rest := [.int x3]) dX7_matchesOf_6 kMX7_85 rfl (hmc221 (m := m) hm) rfl rfl (Nat.le_of_ble_eq_true rfl) (d2 := 0) (by decide) (k2 := 0) (Nat.zero_le _) (u2 := 0) (Nat.zero_le _) (Nat.le_of_ble_eq_true rfl) (ctX7_count (m := m) hm  ) (fun v1 h2 q3 => ?_)
    obtain ⟨rfl, rfl⟩ := q3
    refine am_icmp_ge dX7_matchesOf_9 (by decide : ((9 : Nat) : Int) + (28) = ((37 : Nat) : Int)) (fun c4 => ?_) (fun c4 => ?_)
    · have hs := hs.1 c4
      exact kx _ (ifp c4 (rfl))
    · have hs := hs.2 c4
      refine am_iload_n dX7_matchesOf_12 1 rfl ?_
      refine am_aload_n dX7_matchesOf_13 2 rfl ?_
      refine am_iload_n dX7_matchesOf_14 3 rfl ?_
      refine am_iload_n dX7_matchesOf_15 0 rfl ?_
      obtain ⟨i5, hs⟩ := hs
      refine am_callV (As := [.int z1, .int x3]) (rest := [.int x2]) dX7_matchesOf_16 kMX7_101 rfl (hmc221 (m := m) hm) rfl rfl (Nat.le_of_ble_eq_true rfl) (d2 := 3) (by decide) (k2 := 0) (Nat.zero_le _) (u2 := 0) (Nat.zero_le _) (Nat.le_of_ble_eq_true rfl) (ctX7_areMatch (m := m) hm z1 x3 i5) (fun v6 h7 q8 => ?_)
      obtain ⟨rfl, rfl⟩ := q8
      refine am_if_eq dX7_matchesOf_19 (by decide : ((19 : Nat) : Int) + (9) = ((28 : Nat) : Int)) (fun c9 => ?_) (fun c9 => ?_)
      · have hs := hs.1 c9
        refine am_iconst (v := 0) dX7_matchesOf_28 (by decide) ?_
        refine am_ior dX7_matchesOf_29 ?_
        refine am_istore_n dX7_matchesOf_30 (by decide) (lv' := [(2, .int (x2 ||| 0)), (3, .int x3), (0, .ref (gz G + 221)), (1, .int z1)]) rfl ?_
        refine am_iinc (v := (x3 + 1)) dX7_matchesOf_31 1 rfl rfl (by decide) (lv' := [(3, .int (x3 + 1)), (2, .int (x2 ||| 0)), (0, .ref (gz G + 221)), (1, .int z1)]) rfl ?_
        refine am_goto dX7_matchesOf_34 (by decide : ((34 : Nat) : Int) + (-30) = ((4 : Nat) : Int)) ?_
        exact ih (x3 + 1) (x2 ||| 0) (ivU_s c4 iv) hs (fun r e => kx r (Eq.trans (ifn c4 (ifp c9 (rfl))) e))
      · have hs := hs.2 c9
        refine am_iconst (v := 1) dX7_matchesOf_22 (by decide) ?_
        refine am_iload_n dX7_matchesOf_23 0 rfl ?_
        refine am_ishl dX7_matchesOf_24 ?_
        refine am_goto dX7_matchesOf_25 (by decide : ((25 : Nat) : Int) + (4) = ((29 : Nat) : Int)) ?_
        refine am_ior dX7_matchesOf_29 ?_
        refine am_istore_n dX7_matchesOf_30 (by decide) (lv' := [(2, .int (x2 ||| ((1 : Int32) <<< (x3 &&& 31)))), (3, .int x3), (0, .ref (gz G + 221)), (1, .int z1)]) rfl ?_
        refine am_iinc (v := (x3 + 1)) dX7_matchesOf_31 1 rfl rfl (by decide) (lv' := [(3, .int (x3 + 1)), (2, .int (x2 ||| ((1 : Int32) <<< (x3 &&& 31)))), (0, .ref (gz G + 221)), (1, .int z1)]) rfl ?_
        refine am_goto dX7_matchesOf_34 (by decide : ((34 : Nat) : Int) + (-30) = ((4 : Nat) : Int)) ?_
        exact ih (x3 + 1) (x2 ||| ((1 : Int32) <<< (x3 &&& 31))) (ivU_s c4 iv) hs (fun r e => kx r (Eq.trans (ifn c4 (ifn c9 (rfl))) e))
def fX7_matchesOf (m : Md) (z1 : Int32) : Int32 := (bnd (fX7_matchesOf_4 z1  m (fuU (fX7_count m ) 0) 0 0 ) (fun r11 => r11.2))
def sX7_matchesOf (m : Md) (z1 : Int32) : Prop := ((sX7_matchesOf_4 z1  m (fuU (fX7_count m ) 0) 0 0 ) ∧ bnd (fX7_matchesOf_4 z1  m (fuU (fX7_count m ) 0) 0 0 ) (fun r11 => True))
set_option maxRecDepth 20000 in
theorem ctX7_matchesOf {l : Launch} {G : GM} {K : Nat → Option va_E} {h : List va_E} {m : Md} (hm : HM G K h m) (z1 : Int32) (hs : sX7_matchesOf m z1) : Ct l G mX7_matchesOf 4 0 0 [.ref (gz G + 221), .int z1] h (fun v h1 => v = some (.int (fX7_matchesOf m z1)) ∧ h1 = h) := by
  show Tr l G mX7_matchesOf 4 0 0 0 [(0, .ref (gz G + 221)), (1, .int z1)] [] h _
  unfold sX7_matchesOf at hs
  refine am_iconst (v := 0) dX7_matchesOf_0 (by decide) ?_
  refine am_istore_n dX7_matchesOf_1 (by decide) (lv' := [(2, .int 0), (0, .ref (gz G + 221)), (1, .int z1)]) rfl ?_
  refine am_iconst (v := 0) dX7_matchesOf_2 (by decide) ?_
  refine am_istore_n dX7_matchesOf_3 (by decide) (lv' := [(3, .int 0), (2, .int 0), (0, .ref (gz G + 221)), (1, .int z1)]) rfl ?_
  obtain ⟨i10, hs⟩ := hs
  refine wX7_matchesOf_4 z1   hm (fuU (fX7_count m ) 0) 0 0 ivU_i i10 (fun r11 e12 => ?_)
  have hs := bnd_p e12 hs
  refine am_iload_n dX7_matchesOf_37 1 rfl ?_
  rw [show (fX7_matchesOf m z1) = r11.2 from bnd_eq e12 (rfl)]
  exact am_ireturn dX7_matchesOf_38 rfl rfl ⟨rfl, rfl⟩

theorem dX7_hasBit_0 : decode cX7_hasBit 0 = .ok (.iload_n 0, 1) := by decide +kernel
theorem dX7_hasBit_1 : decode cX7_hasBit 1 = .ok (.iload_n 1, 1) := by decide +kernel
theorem dX7_hasBit_2 : decode cX7_hasBit 2 = .ok (.ishr, 1) := by decide +kernel
theorem dX7_hasBit_3 : decode cX7_hasBit 3 = .ok (.iconst 1, 1) := by decide +kernel
theorem dX7_hasBit_4 : decode cX7_hasBit 4 = .ok (.iand, 1) := by decide +kernel
theorem dX7_hasBit_5 : decode cX7_hasBit 5 = .ok (.iconst 1, 1) := by decide +kernel
theorem dX7_hasBit_6 : decode cX7_hasBit 6 = .ok (.if_icmp .ne 7, 3) := by decide +kernel
theorem dX7_hasBit_9 : decode cX7_hasBit 9 = .ok (.iconst 1, 1) := by decide +kernel
theorem dX7_hasBit_10 : decode cX7_hasBit 10 = .ok (.goto 4, 3) := by decide +kernel
theorem dX7_hasBit_13 : decode cX7_hasBit 13 = .ok (.iconst 0, 1) := by decide +kernel
theorem dX7_hasBit_14 : decode cX7_hasBit 14 = .ok (.ireturn, 1) := by decide +kernel
def fX7_hasBit (z1 : Int32) (z2 : Int32) : Int32 := (if ((z1 >>> (z2 &&& 31)) &&& 1) = 1 then 1 else 0)
set_option maxRecDepth 20000 in
theorem ctX7_hasBit {l : Launch} {G : GM} {h : List va_E} (z1 : Int32) (z2 : Int32) : Ct l G mX7_hasBit 0 0 0 [.int z1, .int z2] h (fun v h1 => v = some (.int (fX7_hasBit z1 z2)) ∧ h1 = h) := by
  show Tr l G mX7_hasBit 0 0 0 0 [(0, .int z1), (1, .int z2)] [] h _
  refine am_iload_n dX7_hasBit_0 0 rfl ?_
  refine am_iload_n dX7_hasBit_1 1 rfl ?_
  refine am_ishr dX7_hasBit_2 ?_
  refine am_iconst (v := 1) dX7_hasBit_3 (by decide) ?_
  refine am_iand dX7_hasBit_4 ?_
  refine am_iconst (v := 1) dX7_hasBit_5 (by decide) ?_
  refine am_icmp_ne dX7_hasBit_6 (by decide : ((6 : Nat) : Int) + (7) = ((13 : Nat) : Int)) (fun c1 => ?_) (fun c1 => ?_)
  · refine am_iconst (v := 0) dX7_hasBit_13 (by decide) ?_
    rw [show (fX7_hasBit z1 z2) = 0 from Eq.trans (if_neg c1) (rfl)]
    exact am_ireturn dX7_hasBit_14 rfl rfl ⟨rfl, rfl⟩
  · refine am_iconst (v := 1) dX7_hasBit_9 (by decide) ?_
    refine am_goto dX7_hasBit_10 (by decide : ((10 : Nat) : Int) + (4) = ((14 : Nat) : Int)) ?_
    rw [show (fX7_hasBit z1 z2) = 1 from Eq.trans (if_pos c1) (rfl)]
    exact am_ireturn dX7_hasBit_14 rfl rfl ⟨rfl, rfl⟩

theorem dX7_lowest_0 : decode cX7_lowest 0 = .ok (.iconst 0, 1) := by decide +kernel
theorem dX7_lowest_1 : decode cX7_lowest 1 = .ok (.istore_n 1, 1) := by decide +kernel
theorem dX7_lowest_2 : decode cX7_lowest 2 = .ok (.iload_n 0, 1) := by decide +kernel
theorem dX7_lowest_3 : decode cX7_lowest 3 = .ok (.iload_n 1, 1) := by decide +kernel
theorem dX7_lowest_4 : decode cX7_lowest 4 = .ok (.invokestatic 104, 3) := by decide +kernel
theorem dX7_lowest_7 : decode cX7_lowest 7 = .ok (.ifCond .ne 9, 3) := by decide +kernel
theorem dX7_lowest_10 : decode cX7_lowest 10 = .ok (.iinc 1 1, 3) := by decide +kernel
theorem dX7_lowest_13 : decode cX7_lowest 13 = .ok (.goto (-11), 3) := by decide +kernel
theorem dX7_lowest_16 : decode cX7_lowest 16 = .ok (.iload_n 1, 1) := by decide +kernel
theorem dX7_lowest_17 : decode cX7_lowest 17 = .ok (.ireturn, 1) := by decide +kernel
def fX7_lowest_2 (z1 : Int32)  : Nat → Int32 → Int32
  | 0, x1 => x1
  | fu + 1, x1 => (if (fX7_hasBit z1 x1) = 0 then (fX7_lowest_2 z1   fu (x1 + 1) ) else x1)
def sX7_lowest_2 (z1 : Int32)  : Nat → Int32 → Prop
  | 0, _ => False
  | fu + 1, x1 => (((fX7_hasBit z1 x1) = 0 → (sX7_lowest_2 z1   fu (x1 + 1) )) ∧ (¬ (fX7_hasBit z1 x1) = 0 → True))
set_option maxRecDepth 20000 in
theorem wX7_lowest_2 {l : Launch} {G : GM} {h : List va_E} (z1 : Int32)    {Q : Option Value → List va_E → Prop} : ∀ (fu : Nat) (x1 : Int32) (hs : sX7_lowest_2 z1   fu x1 ) (kx : ∀ (r : Int32), (fX7_lowest_2 z1   fu x1 ) = r → Tr l G mX7_lowest 1 0 0 16 [(1, .int r), (0, .int z1)] [] h Q), Tr l G mX7_lowest 1 0 0 2 [(1, .int x1), (0, .int z1)] [] h Q := by
  intro fu
  induction fu with
  | zero => intro x1 hs; intros; exact (show False from hs).elim
  | succ fu ih =>
    intro x1  hs    kx
    rw [sX7_lowest_2] at hs
    refine am_iload_n dX7_lowest_2 1 rfl ?_
    refine am_iload_n dX7_lowest_3 0 rfl ?_
    refine am_callS (As := [.int z1, .int x1]) (rest := []) dX7_lowest_4 kMX7_104 rfl  rfl (Nat.le_of_ble_eq_true rfl) (d2 := 0) (by decide) (k2 := 0) (Nat.zero_le _) (u2 := 0) (Nat.zero_le _) (Nat.le_of_ble_eq_true rfl) (ctX7_hasBit  z1 x1 ) (fun v1 h2 q3 => ?_)
    obtain ⟨rfl, rfl⟩ := q3
    refine am_if_ne dX7_lowest_7 (by decide : ((7 : Nat) : Int) + (9) = ((16 : Nat) : Int)) (fun c4 => ?_) (fun c4 => ?_)
    · have hs := hs.2 c4
      exact kx _ (Eq.trans (if_neg c4) (rfl))
    · have hs := hs.1 c4
      refine am_iinc (v := (x1 + 1)) dX7_lowest_10 0 rfl rfl (by decide) (lv' := [(1, .int (x1 + 1)), (0, .int z1)]) rfl ?_
      refine am_goto dX7_lowest_13 (by decide : ((13 : Nat) : Int) + (-11) = ((2 : Nat) : Int)) ?_
      exact ih (x1 + 1)  hs (fun r e => kx r (Eq.trans (Eq.trans (if_pos c4) (rfl)) e))
def fX7_lowest (z1 : Int32) : Int32 := (bnd (fX7_lowest_2 z1   40 0 ) (fun r6 => r6))
def sX7_lowest (z1 : Int32) : Prop := ((sX7_lowest_2 z1   40 0 ) ∧ bnd (fX7_lowest_2 z1   40 0 ) (fun r6 => True))
set_option maxRecDepth 20000 in
theorem ctX7_lowest {l : Launch} {G : GM} {h : List va_E} (z1 : Int32) (hs : sX7_lowest z1) : Ct l G mX7_lowest 1 0 0 [.int z1] h (fun v h1 => v = some (.int (fX7_lowest z1)) ∧ h1 = h) := by
  show Tr l G mX7_lowest 1 0 0 0 [(0, .int z1)] [] h _
  unfold sX7_lowest at hs
  refine am_iconst (v := 0) dX7_lowest_0 (by decide) ?_
  refine am_istore_n dX7_lowest_1 (by decide) (lv' := [(1, .int 0), (0, .int z1)]) rfl ?_
  obtain ⟨i5, hs⟩ := hs
  refine wX7_lowest_2 z1    40 0  i5 (fun r6 e7 => ?_)
  have hs := bnd_p e7 hs
  refine am_iload_n dX7_lowest_16 0 rfl ?_
  rw [show (fX7_lowest z1) = r6 from bnd_eq e7 (rfl)]
  exact am_ireturn dX7_lowest_17 rfl rfl ⟨rfl, rfl⟩

theorem dX7_worthWith_0 : decode cX7_worthWith 0 = .ok (.aload_n 0, 1) := by decide +kernel
theorem dX7_worthWith_1 : decode cX7_worthWith 1 = .ok (.getfield 26, 3) := by decide +kernel
theorem dX7_worthWith_4 : decode cX7_worthWith 4 = .ok (.iload_n 3, 1) := by decide +kernel
theorem dX7_worthWith_5 : decode cX7_worthWith 5 = .ok (.iconst 1, 1) := by decide +kernel
theorem dX7_worthWith_6 : decode cX7_worthWith 6 = .ok (.iload_n 2, 1) := by decide +kernel
theorem dX7_worthWith_7 : decode cX7_worthWith 7 = .ok (.ishl, 1) := by decide +kernel
theorem dX7_worthWith_8 : decode cX7_worthWith 8 = .ok (.iconst (-1), 1) := by decide +kernel
theorem dX7_worthWith_9 : decode cX7_worthWith 9 = .ok (.ixor, 1) := by decide +kernel
theorem dX7_worthWith_10 : decode cX7_worthWith 10 = .ok (.iand, 1) := by decide +kernel
theorem dX7_worthWith_11 : decode cX7_worthWith 11 = .ok (.iaload, 1) := by decide +kernel
theorem dX7_worthWith_12 : decode cX7_worthWith 12 = .ok (.ldc 117, 2) := by decide +kernel
theorem dX7_worthWith_14 : decode cX7_worthWith 14 = .ok (.iadd, 1) := by decide +kernel
theorem dX7_worthWith_15 : decode cX7_worthWith 15 = .ok (.aload_n 0, 1) := by decide +kernel
theorem dX7_worthWith_16 : decode cX7_worthWith 16 = .ok (.iload_n 1, 1) := by decide +kernel
theorem dX7_worthWith_17 : decode cX7_worthWith 17 = .ok (.iload_n 2, 1) := by decide +kernel
theorem dX7_worthWith_18 : decode cX7_worthWith 18 = .ok (.invokevirtual 118, 3) := by decide +kernel
theorem dX7_worthWith_21 : decode cX7_worthWith 21 = .ok (.isub, 1) := by decide +kernel
theorem dX7_worthWith_22 : decode cX7_worthWith 22 = .ok (.ireturn, 1) := by decide +kernel
def fX7_worthWith (m : Md) (z1 : Int32) (z2 : Int32) (z3 : Int32) : Int32 := ((((m.2.1 3) (z3 &&& (((1 : Int32) <<< (z2 &&& 31)) ^^^ (-1))).toNatClampNeg) + 100000) - (fX7_gapOf m z1 z2))
def sX7_worthWith (m : Md) (z1 : Int32) (z2 : Int32) (z3 : Int32) : Prop := (vp_in (z3 &&& (((1 : Int32) <<< (z2 &&& 31)) ^^^ (-1))) 16384 ∧ ((sX7_gapOf m z1 z2) ∧ True))
set_option maxRecDepth 20000 in
theorem ctX7_worthWith {l : Launch} {G : GM} {K : Nat → Option va_E} {h : List va_E} {m : Md} (hm : HM G K h m) (z1 : Int32) (z2 : Int32) (z3 : Int32) (hs : sX7_worthWith m z1 z2 z3) : Ct l G mX7_worthWith 3 0 0 [.ref (gz G + 221), .int z1, .int z2, .int z3] h (fun v h1 => v = some (.int (fX7_worthWith m z1 z2 z3)) ∧ h1 = h) := by
  show Tr l G mX7_worthWith 3 0 0 0 [(0, .ref (gz G + 221)), (1, .int z1), (2, .int z2), (3, .int z3)] [] h _
  unfold sX7_worthWith at hs
  refine am_aload_n dX7_worthWith_0 0 rfl ?_
  refine am_get (v := .ref (gz G + 225)) dX7_worthWith_1 kGX7_26 (hmc221 (m := m) hm) rfl ?_
  refine am_iload_n dX7_worthWith_4 3 rfl ?_
  refine am_iconst (v := 1) dX7_worthWith_5 (by decide) ?_
  refine am_iload_n dX7_worthWith_6 2 rfl ?_
  refine am_ishl dX7_worthWith_7 ?_
  refine am_iconst (v := (-1)) dX7_worthWith_8 (by decide) ?_
  refine am_ixor dX7_worthWith_9 ?_
  refine am_iand dX7_worthWith_10 ?_
  obtain ⟨i1, hs⟩ := hs
  refine am_iald (f := (m.2.1 3)) dX7_worthWith_11 (hmc225 (m := m) hm) i1 ?_
  refine am_ldc (v := 100000) dX7_worthWith_12 kKX7_117 ?_
  refine am_iadd dX7_worthWith_14 ?_
  refine am_aload_n dX7_worthWith_15 0 rfl ?_
  refine am_iload_n dX7_worthWith_16 1 rfl ?_
  refine am_iload_n dX7_worthWith_17 2 rfl ?_
  obtain ⟨i2, hs⟩ := hs
  refine am_callV (As := [.int z1, .int z2]) (rest := [.int (((m.2.1 3) (z3 &&& (((1 : Int32) <<< (z2 &&& 31)) ^^^ (-1))).toNatClampNeg) + 100000)]) dX7_worthWith_18 kMX7_118 rfl (hmc221 (m := m) hm) rfl rfl (Nat.le_of_ble_eq_true rfl) (d2 := 2) (by decide) (k2 := 0) (Nat.zero_le _) (u2 := 0) (Nat.zero_le _) (Nat.le_of_ble_eq_true rfl) (ctX7_gapOf (m := m) hm z1 z2 i2) (fun v3 h4 q5 => ?_)
  obtain ⟨rfl, rfl⟩ := q5
  refine am_isub dX7_worthWith_21 ?_
  rw [show (fX7_worthWith m z1 z2 z3) = ((((m.2.1 3) (z3 &&& (((1 : Int32) <<< (z2 &&& 31)) ^^^ (-1))).toNatClampNeg) + 100000) - (fX7_gapOf m z1 z2)) from rfl]
  exact am_ireturn dX7_worthWith_22 rfl rfl ⟨rfl, rfl⟩

theorem dX7_layWorth_0 : decode cX7_layWorth 0 = .ok (.iconst 0, 1) := by decide +kernel
theorem dX7_layWorth_1 : decode cX7_layWorth 1 = .ok (.istore_n 1, 1) := by decide +kernel
theorem dX7_layWorth_2 : decode cX7_layWorth 2 = .ok (.iload_n 1, 1) := by decide +kernel
theorem dX7_layWorth_3 : decode cX7_layWorth 3 = .ok (.aload_n 0, 1) := by decide +kernel
theorem dX7_layWorth_4 : decode cX7_layWorth 4 = .ok (.invokevirtual 85, 3) := by decide +kernel
theorem dX7_layWorth_7 : decode cX7_layWorth 7 = .ok (.if_icmp .ge 20, 3) := by decide +kernel
theorem dX7_layWorth_10 : decode cX7_layWorth 10 = .ok (.aload_n 0, 1) := by decide +kernel
theorem dX7_layWorth_11 : decode cX7_layWorth 11 = .ok (.getfield 29, 3) := by decide +kernel
theorem dX7_layWorth_14 : decode cX7_layWorth 14 = .ok (.iload_n 1, 1) := by decide +kernel
theorem dX7_layWorth_15 : decode cX7_layWorth 15 = .ok (.aload_n 0, 1) := by decide +kernel
theorem dX7_layWorth_16 : decode cX7_layWorth 16 = .ok (.iload_n 1, 1) := by decide +kernel
theorem dX7_layWorth_17 : decode cX7_layWorth 17 = .ok (.invokevirtual 107, 3) := by decide +kernel
theorem dX7_layWorth_20 : decode cX7_layWorth 20 = .ok (.iastore, 1) := by decide +kernel
theorem dX7_layWorth_21 : decode cX7_layWorth 21 = .ok (.iinc 1 1, 3) := by decide +kernel
theorem dX7_layWorth_24 : decode cX7_layWorth 24 = .ok (.goto (-22), 3) := by decide +kernel
theorem dX7_layWorth_27 : decode cX7_layWorth 27 = .ok (.iconst 1, 1) := by decide +kernel
theorem dX7_layWorth_28 : decode cX7_layWorth 28 = .ok (.aload_n 0, 1) := by decide +kernel
theorem dX7_layWorth_29 : decode cX7_layWorth 29 = .ok (.invokevirtual 85, 3) := by decide +kernel
theorem dX7_layWorth_32 : decode cX7_layWorth 32 = .ok (.ishl, 1) := by decide +kernel
theorem dX7_layWorth_33 : decode cX7_layWorth 33 = .ok (.iconst 1, 1) := by decide +kernel
theorem dX7_layWorth_34 : decode cX7_layWorth 34 = .ok (.isub, 1) := by decide +kernel
theorem dX7_layWorth_35 : decode cX7_layWorth 35 = .ok (.istore_n 1, 1) := by decide +kernel
theorem dX7_layWorth_36 : decode cX7_layWorth 36 = .ok (.aload_n 0, 1) := by decide +kernel
theorem dX7_layWorth_37 : decode cX7_layWorth 37 = .ok (.getfield 26, 3) := by decide +kernel
theorem dX7_layWorth_40 : decode cX7_layWorth 40 = .ok (.iconst 0, 1) := by decide +kernel
theorem dX7_layWorth_41 : decode cX7_layWorth 41 = .ok (.iconst 0, 1) := by decide +kernel
theorem dX7_layWorth_42 : decode cX7_layWorth 42 = .ok (.iastore, 1) := by decide +kernel
theorem dX7_layWorth_43 : decode cX7_layWorth 43 = .ok (.iconst 1, 1) := by decide +kernel
theorem dX7_layWorth_44 : decode cX7_layWorth 44 = .ok (.istore_n 2, 1) := by decide +kernel
theorem dX7_layWorth_45 : decode cX7_layWorth 45 = .ok (.iload_n 2, 1) := by decide +kernel
theorem dX7_layWorth_46 : decode cX7_layWorth 46 = .ok (.iload_n 1, 1) := by decide +kernel
theorem dX7_layWorth_47 : decode cX7_layWorth 47 = .ok (.if_icmp .gt 97, 3) := by decide +kernel
theorem dX7_layWorth_50 : decode cX7_layWorth 50 = .ok (.iload_n 2, 1) := by decide +kernel
theorem dX7_layWorth_51 : decode cX7_layWorth 51 = .ok (.invokestatic 110, 3) := by decide +kernel
theorem dX7_layWorth_54 : decode cX7_layWorth 54 = .ok (.istore_n 3, 1) := by decide +kernel
theorem dX7_layWorth_55 : decode cX7_layWorth 55 = .ok (.iload_n 2, 1) := by decide +kernel
theorem dX7_layWorth_56 : decode cX7_layWorth 56 = .ok (.iconst 1, 1) := by decide +kernel
theorem dX7_layWorth_57 : decode cX7_layWorth 57 = .ok (.iload_n 3, 1) := by decide +kernel
theorem dX7_layWorth_58 : decode cX7_layWorth 58 = .ok (.ishl, 1) := by decide +kernel
theorem dX7_layWorth_59 : decode cX7_layWorth 59 = .ok (.iconst (-1), 1) := by decide +kernel
theorem dX7_layWorth_60 : decode cX7_layWorth 60 = .ok (.ixor, 1) := by decide +kernel
theorem dX7_layWorth_61 : decode cX7_layWorth 61 = .ok (.iand, 1) := by decide +kernel
theorem dX7_layWorth_62 : decode cX7_layWorth 62 = .ok (.istore 4, 2) := by decide +kernel
theorem dX7_layWorth_64 : decode cX7_layWorth 64 = .ok (.aload_n 0, 1) := by decide +kernel
theorem dX7_layWorth_65 : decode cX7_layWorth 65 = .ok (.getfield 26, 3) := by decide +kernel
theorem dX7_layWorth_68 : decode cX7_layWorth 68 = .ok (.iload_n 2, 1) := by decide +kernel
theorem dX7_layWorth_69 : decode cX7_layWorth 69 = .ok (.aload_n 0, 1) := by decide +kernel
theorem dX7_layWorth_70 : decode cX7_layWorth 70 = .ok (.getfield 26, 3) := by decide +kernel
theorem dX7_layWorth_73 : decode cX7_layWorth 73 = .ok (.iload 4, 2) := by decide +kernel
theorem dX7_layWorth_75 : decode cX7_layWorth 75 = .ok (.iaload, 1) := by decide +kernel
theorem dX7_layWorth_76 : decode cX7_layWorth 76 = .ok (.iastore, 1) := by decide +kernel
theorem dX7_layWorth_77 : decode cX7_layWorth 77 = .ok (.iload_n 3, 1) := by decide +kernel
theorem dX7_layWorth_78 : decode cX7_layWorth 78 = .ok (.iconst 1, 1) := by decide +kernel
theorem dX7_layWorth_79 : decode cX7_layWorth 79 = .ok (.iadd, 1) := by decide +kernel
theorem dX7_layWorth_80 : decode cX7_layWorth 80 = .ok (.istore 5, 2) := by decide +kernel
theorem dX7_layWorth_82 : decode cX7_layWorth 82 = .ok (.iload 5, 2) := by decide +kernel
theorem dX7_layWorth_84 : decode cX7_layWorth 84 = .ok (.aload_n 0, 1) := by decide +kernel
theorem dX7_layWorth_85 : decode cX7_layWorth 85 = .ok (.invokevirtual 85, 3) := by decide +kernel
theorem dX7_layWorth_88 : decode cX7_layWorth 88 = .ok (.if_icmp .ge 50, 3) := by decide +kernel
theorem dX7_layWorth_91 : decode cX7_layWorth 91 = .ok (.aload_n 0, 1) := by decide +kernel
theorem dX7_layWorth_92 : decode cX7_layWorth 92 = .ok (.getfield 29, 3) := by decide +kernel
theorem dX7_layWorth_95 : decode cX7_layWorth 95 = .ok (.iload_n 3, 1) := by decide +kernel
theorem dX7_layWorth_96 : decode cX7_layWorth 96 = .ok (.iaload, 1) := by decide +kernel
theorem dX7_layWorth_97 : decode cX7_layWorth 97 = .ok (.iload 4, 2) := by decide +kernel
theorem dX7_layWorth_99 : decode cX7_layWorth 99 = .ok (.iand, 1) := by decide +kernel
theorem dX7_layWorth_100 : decode cX7_layWorth 100 = .ok (.iload 5, 2) := by decide +kernel
theorem dX7_layWorth_102 : decode cX7_layWorth 102 = .ok (.invokestatic 104, 3) := by decide +kernel
theorem dX7_layWorth_105 : decode cX7_layWorth 105 = .ok (.ifCond .eq 27, 3) := by decide +kernel
theorem dX7_layWorth_108 : decode cX7_layWorth 108 = .ok (.aload_n 0, 1) := by decide +kernel
theorem dX7_layWorth_109 : decode cX7_layWorth 109 = .ok (.getfield 26, 3) := by decide +kernel
theorem dX7_layWorth_112 : decode cX7_layWorth 112 = .ok (.iload_n 2, 1) := by decide +kernel
theorem dX7_layWorth_113 : decode cX7_layWorth 113 = .ok (.aload_n 0, 1) := by decide +kernel
theorem dX7_layWorth_114 : decode cX7_layWorth 114 = .ok (.getfield 26, 3) := by decide +kernel
theorem dX7_layWorth_117 : decode cX7_layWorth 117 = .ok (.iload_n 2, 1) := by decide +kernel
theorem dX7_layWorth_118 : decode cX7_layWorth 118 = .ok (.iaload, 1) := by decide +kernel
theorem dX7_layWorth_119 : decode cX7_layWorth 119 = .ok (.aload_n 0, 1) := by decide +kernel
theorem dX7_layWorth_120 : decode cX7_layWorth 120 = .ok (.iload_n 3, 1) := by decide +kernel
theorem dX7_layWorth_121 : decode cX7_layWorth 121 = .ok (.iload 5, 2) := by decide +kernel
theorem dX7_layWorth_123 : decode cX7_layWorth 123 = .ok (.iload 4, 2) := by decide +kernel
theorem dX7_layWorth_125 : decode cX7_layWorth 125 = .ok (.invokevirtual 113, 3) := by decide +kernel
theorem dX7_layWorth_128 : decode cX7_layWorth 128 = .ok (.invokestatic 63, 3) := by decide +kernel
theorem dX7_layWorth_131 : decode cX7_layWorth 131 = .ok (.iastore, 1) := by decide +kernel
theorem dX7_layWorth_132 : decode cX7_layWorth 132 = .ok (.iinc 5 1, 3) := by decide +kernel
theorem dX7_layWorth_135 : decode cX7_layWorth 135 = .ok (.goto (-53), 3) := by decide +kernel
theorem dX7_layWorth_138 : decode cX7_layWorth 138 = .ok (.iinc 2 1, 3) := by decide +kernel
theorem dX7_layWorth_141 : decode cX7_layWorth 141 = .ok (.goto (-96), 3) := by decide +kernel
theorem dX7_layWorth_144 : decode cX7_layWorth 144 = .ok (.aload_n 0, 1) := by decide +kernel
theorem dX7_layWorth_145 : decode cX7_layWorth 145 = .ok (.getfield 26, 3) := by decide +kernel
theorem dX7_layWorth_148 : decode cX7_layWorth 148 = .ok (.iload_n 1, 1) := by decide +kernel
theorem dX7_layWorth_149 : decode cX7_layWorth 149 = .ok (.iaload, 1) := by decide +kernel
theorem dX7_layWorth_150 : decode cX7_layWorth 150 = .ok (.ireturn, 1) := by decide +kernel
def fX7_layWorth_2   : Nat → Int32 → Md → Int32 × Md
  | 0, x1, y => (x1, y)
  | fu + 1, x1, y => (if (fX7_count y ) ≤ x1 then (x1, y) else (bnd (mA y 4 (upd (y.2.1 4) x1.toNatClampNeg (fX7_matchesOf y x1))) (fun r11 => (fX7_layWorth_2    fu (x1 + 1) r11))))
def sX7_layWorth_2   : Nat → Int32 → Md → Prop
  | 0, _, _ => True
  | fu + 1, x1, y => (((fX7_count y ) ≤ x1 → True) ∧ (¬ (fX7_count y ) ≤ x1 → ((sX7_matchesOf y x1) ∧ (vp_in x1 14 ∧ (bnd (mA y 4 (upd (y.2.1 4) x1.toNatClampNeg (fX7_matchesOf y x1))) (fun r11 => (sX7_layWorth_2    fu (x1 + 1) r11)))))))
set_option maxRecDepth 20000 in
theorem wX7_layWorth_2 {l : Launch} {G : GM} {K : Nat → Option va_E}    {Q : Option Value → List va_E → Prop} : ∀ (fu : Nat) (x1 : Int32) (y : Md) (iv : ivU 2147483647 x1 fu) (hs : sX7_layWorth_2    fu x1 y) {h : List va_E} (gy : HM G K h y) (kx : ∀ (h1 : List va_E) (r : Int32 × Md), (fX7_layWorth_2    fu x1 y) = r → HM G K h1 r.2 → Tr l G mX7_layWorth 5 0 0 27 [(1, .int r.1), (0, .ref (gz G + 221))] [] h1 Q), Tr l G mX7_layWorth 5 0 0 2 [(1, .int x1), (0, .ref (gz G + 221))] [] h Q := by
  intro fu
  induction fu with
  | zero => intro x1 y iv; intros; exact absurd iv ivU_0
  | succ fu ih =>
    intro x1 y iv hs  h gy  kx
    rw [sX7_layWorth_2] at hs
    refine am_iload_n dX7_layWorth_2 0 rfl ?_
    refine am_aload_n dX7_layWorth_3 1 rfl ?_
    refine am_callV (As := []) (rest := [.int x1]) dX7_layWorth_4 kMX7_85 rfl (hmc221 (m := y) gy) rfl rfl (Nat.le_of_ble_eq_true rfl) (d2 := 0) (by decide) (k2 := 0) (Nat.zero_le _) (u2 := 0) (Nat.zero_le _) (Nat.le_of_ble_eq_true rfl) (ctX7_count (m := y) gy  ) (fun v1 h2 q3 => ?_)
    obtain ⟨rfl, rfl⟩ := q3
    refine am_icmp_ge dX7_layWorth_7 (by decide : ((7 : Nat) : Int) + (20) = ((27 : Nat) : Int)) (fun c4 => ?_) (fun c4 => ?_)
    · have hs := hs.1 c4
      exact kx _ _ (ifp c4 (rfl)) gy 
    · have hs := hs.2 c4
      refine am_aload_n dX7_layWorth_10 1 rfl ?_
      refine am_get (v := .ref (gz G + 226)) dX7_layWorth_11 kGX7_29 (hmc221 (m := y) gy) rfl ?_
      refine am_iload_n dX7_layWorth_14 0 rfl ?_
      refine am_aload_n dX7_layWorth_15 1 rfl ?_
      refine am_iload_n dX7_layWorth_16 0 rfl ?_
      obtain ⟨i5, hs⟩ := hs
      refine am_callV (As := [.int x1]) (rest := [.int x1, .ref (gz G + 226)]) dX7_layWorth_17 kMX7_107 rfl (hmc221 (m := y) gy) rfl rfl (Nat.le_of_ble_eq_true rfl) (d2 := 4) (by decide) (k2 := 0) (Nat.zero_le _) (u2 := 0) (Nat.zero_le _) (Nat.le_of_ble_eq_true rfl) (ctX7_matchesOf (m := y) gy x1 i5) (fun v6 h7 q8 => ?_)
      obtain ⟨rfl, rfl⟩ := q8
      obtain ⟨i9, hs⟩ := hs
      refine am_iast (f := (y.2.1 4)) dX7_layWorth_20 (hmc226 (m := y) gy) i9 ?_
      have w10 := hmA4 gy (upd (y.2.1 4) x1.toNatClampNeg (fX7_matchesOf y x1))
      obtain ⟨r11, e12⟩ : ∃ x, (mA y 4 (upd (y.2.1 4) x1.toNatClampNeg (fX7_matchesOf y x1))) = x := ⟨_, rfl⟩
      have w13 := hm_eq e12 w10
      have hs := bnd_p e12 hs
      refine am_iinc (v := (x1 + 1)) dX7_layWorth_21 0 rfl rfl (by decide) (lv' := [(1, .int (x1 + 1)), (0, .ref (gz G + 221))]) rfl ?_
      refine am_goto dX7_layWorth_24 (by decide : ((24 : Nat) : Int) + (-22) = ((2 : Nat) : Int)) ?_
      exact ih (x1 + 1) r11 (ivU_s (iv_top c4) iv) hs w13  (fun h1 r e => kx h1 r (Eq.trans (ifn c4 (bnd_eq e12 (rfl))) e))
def fX7_layWorth_82  (o4 : Int32) (o3 : Int32) (o2 : Int32) (o1 : Int32) : Nat → Int32 → Md → Int32 × Md
  | 0, x5, y => (x5, y)
  | fu + 1, x5, y => (if (fX7_count y ) ≤ x5 then (x5, y) else (if (fX7_hasBit (((y.2.1 4) o3.toNatClampNeg) &&& o4) x5) = 0 then (fX7_layWorth_82  o4 o3 o2 o1  fu (x5 + 1) y) else (bnd (mA y 3 (upd (y.2.1 3) o2.toNatClampNeg (imx ((y.2.1 3) o2.toNatClampNeg) (fX7_worthWith y o3 x5 o4)))) (fun r53 => (fX7_layWorth_82  o4 o3 o2 o1  fu (x5 + 1) r53)))))
def sX7_layWorth_82  (o4 : Int32) (o3 : Int32) (o2 : Int32) (o1 : Int32) : Nat → Int32 → Md → Prop
  | 0, _, _ => True
  | fu + 1, x5, y => (((fX7_count y ) ≤ x5 → True) ∧ (¬ (fX7_count y ) ≤ x5 → (vp_in o3 14 ∧ (((fX7_hasBit (((y.2.1 4) o3.toNatClampNeg) &&& o4) x5) = 0 → (sX7_layWorth_82  o4 o3 o2 o1  fu (x5 + 1) y)) ∧ (¬ (fX7_hasBit (((y.2.1 4) o3.toNatClampNeg) &&& o4) x5) = 0 → (vp_in o2 16384 ∧ ((sX7_worthWith y o3 x5 o4) ∧ (vp_in o2 16384 ∧ (bnd (mA y 3 (upd (y.2.1 3) o2.toNatClampNeg (imx ((y.2.1 3) o2.toNatClampNeg) (fX7_worthWith y o3 x5 o4)))) (fun r53 => (sX7_layWorth_82  o4 o3 o2 o1  fu (x5 + 1) r53)))))))))))
set_option maxRecDepth 20000 in
theorem wX7_layWorth_82 {l : Launch} {G : GM} {K : Nat → Option va_E}  (o4 : Int32) (o3 : Int32) (o2 : Int32) (o1 : Int32)  {Q : Option Value → List va_E → Prop} : ∀ (fu : Nat) (x5 : Int32) (y : Md) (iv : ivU 2147483647 x5 fu) (hs : sX7_layWorth_82  o4 o3 o2 o1  fu x5 y) {h : List va_E} (gy : HM G K h y) (kx : ∀ (h1 : List va_E) (r : Int32 × Md), (fX7_layWorth_82  o4 o3 o2 o1  fu x5 y) = r → HM G K h1 r.2 → Tr l G mX7_layWorth 5 0 0 138 [(5, .int r.1), (4, .int o4), (3, .int o3), (2, .int o2), (1, .int o1), (0, .ref (gz G + 221))] [] h1 Q), Tr l G mX7_layWorth 5 0 0 82 [(5, .int x5), (4, .int o4), (3, .int o3), (2, .int o2), (1, .int o1), (0, .ref (gz G + 221))] [] h Q := by
  intro fu
  induction fu with
  | zero => intro x5 y iv; intros; exact absurd iv ivU_0
  | succ fu ih =>
    intro x5 y iv hs  h gy  kx
    rw [sX7_layWorth_82] at hs
    refine am_iload dX7_layWorth_82 0 rfl ?_
    refine am_aload_n dX7_layWorth_84 5 rfl ?_
    refine am_callV (As := []) (rest := [.int x5]) dX7_layWorth_85 kMX7_85 rfl (hmc221 (m := y) gy) rfl rfl (Nat.le_of_ble_eq_true rfl) (d2 := 0) (by decide) (k2 := 0) (Nat.zero_le _) (u2 := 0) (Nat.zero_le _) (Nat.le_of_ble_eq_true rfl) (ctX7_count (m := y) gy  ) (fun v37 h38 q39 => ?_)
    obtain ⟨rfl, rfl⟩ := q39
    refine am_icmp_ge dX7_layWorth_88 (by decide : ((88 : Nat) : Int) + (50) = ((138 : Nat) : Int)) (fun c40 => ?_) (fun c40 => ?_)
    · have hs := hs.1 c40
      exact kx _ _ (ifp c40 (rfl)) gy 
    · have hs := hs.2 c40
      refine am_aload_n dX7_layWorth_91 5 rfl ?_
      refine am_get (v := .ref (gz G + 226)) dX7_layWorth_92 kGX7_29 (hmc221 (m := y) gy) rfl ?_
      refine am_iload_n dX7_layWorth_95 2 rfl ?_
      obtain ⟨i41, hs⟩ := hs
      refine am_iald (f := (y.2.1 4)) dX7_layWorth_96 (hmc226 (m := y) gy) i41 ?_
      refine am_iload dX7_layWorth_97 1 rfl ?_
      refine am_iand dX7_layWorth_99 ?_
      refine am_iload dX7_layWorth_100 0 rfl ?_
      refine am_callS (As := [.int (((y.2.1 4) o3.toNatClampNeg) &&& o4), .int x5]) (rest := []) dX7_layWorth_102 kMX7_104 rfl  rfl (Nat.le_of_ble_eq_true rfl) (d2 := 0) (by decide) (k2 := 0) (Nat.zero_le _) (u2 := 0) (Nat.zero_le _) (Nat.le_of_ble_eq_true rfl) (ctX7_hasBit  (((y.2.1 4) o3.toNatClampNeg) &&& o4) x5 ) (fun v42 h43 q44 => ?_)
      obtain ⟨rfl, rfl⟩ := q44
      refine am_if_eq dX7_layWorth_105 (by decide : ((105 : Nat) : Int) + (27) = ((132 : Nat) : Int)) (fun c45 => ?_) (fun c45 => ?_)
      · have hs := hs.1 c45
        refine am_iinc (v := (x5 + 1)) dX7_layWorth_132 0 rfl rfl (by decide) (lv' := [(5, .int (x5 + 1)), (4, .int o4), (3, .int o3), (2, .int o2), (1, .int o1), (0, .ref (gz G + 221))]) rfl ?_
        refine am_goto dX7_layWorth_135 (by decide : ((135 : Nat) : Int) + (-53) = ((82 : Nat) : Int)) ?_
        exact ih (x5 + 1) y (ivU_s (iv_top c40) iv) hs gy  (fun h1 r e => kx h1 r (Eq.trans (ifn c40 (ifp c45 (rfl))) e))
      · have hs := hs.2 c45
        refine am_aload_n dX7_layWorth_108 5 rfl ?_
        refine am_get (v := .ref (gz G + 225)) dX7_layWorth_109 kGX7_26 (hmc221 (m := y) gy) rfl ?_
        refine am_iload_n dX7_layWorth_112 3 rfl ?_
        refine am_aload_n dX7_layWorth_113 5 rfl ?_
        refine am_get (v := .ref (gz G + 225)) dX7_layWorth_114 kGX7_26 (hmc221 (m := y) gy) rfl ?_
        refine am_iload_n dX7_layWorth_117 3 rfl ?_
        obtain ⟨i46, hs⟩ := hs
        refine am_iald (f := (y.2.1 3)) dX7_layWorth_118 (hmc225 (m := y) gy) i46 ?_
        refine am_aload_n dX7_layWorth_119 5 rfl ?_
        refine am_iload_n dX7_layWorth_120 2 rfl ?_
        refine am_iload dX7_layWorth_121 0 rfl ?_
        refine am_iload dX7_layWorth_123 1 rfl ?_
        obtain ⟨i47, hs⟩ := hs
        refine am_callV (As := [.int o3, .int x5, .int o4]) (rest := [.int ((y.2.1 3) o2.toNatClampNeg), .int o2, .ref (gz G + 225)]) dX7_layWorth_125 kMX7_113 rfl (hmc221 (m := y) gy) rfl rfl (Nat.le_of_ble_eq_true rfl) (d2 := 3) (by decide) (k2 := 0) (Nat.zero_le _) (u2 := 0) (Nat.zero_le _) (Nat.le_of_ble_eq_true rfl) (ctX7_worthWith (m := y) gy o3 x5 o4 i47) (fun v48 h49 q50 => ?_)
        obtain ⟨rfl, rfl⟩ := q50
        refine am_mmax dX7_layWorth_128 kXX7_63 (Nat.le_of_ble_eq_true rfl) (by decide) ?_
        obtain ⟨i51, hs⟩ := hs
        refine am_iast (f := (y.2.1 3)) dX7_layWorth_131 (hmc225 (m := y) gy) i51 ?_
        have w52 := hmA3 gy (upd (y.2.1 3) o2.toNatClampNeg (imx ((y.2.1 3) o2.toNatClampNeg) (fX7_worthWith y o3 x5 o4)))
        obtain ⟨r53, e54⟩ : ∃ x, (mA y 3 (upd (y.2.1 3) o2.toNatClampNeg (imx ((y.2.1 3) o2.toNatClampNeg) (fX7_worthWith y o3 x5 o4)))) = x := ⟨_, rfl⟩
        have w55 := hm_eq e54 w52
        have hs := bnd_p e54 hs
        refine am_iinc (v := (x5 + 1)) dX7_layWorth_132 0 rfl rfl (by decide) (lv' := [(5, .int (x5 + 1)), (4, .int o4), (3, .int o3), (2, .int o2), (1, .int o1), (0, .ref (gz G + 221))]) rfl ?_
        refine am_goto dX7_layWorth_135 (by decide : ((135 : Nat) : Int) + (-53) = ((82 : Nat) : Int)) ?_
        exact ih (x5 + 1) r53 (ivU_s (iv_top c40) iv) hs w55  (fun h1 r e => kx h1 r (Eq.trans (ifn c40 (ifn c45 (bnd_eq e54 (rfl)))) e))
def fX7_layWorth_45  (o1 : Int32) : Nat → Int32 → Md → Int32 × Md
  | 0, x2, y => (x2, y)
  | fu + 1, x2, y => (if o1 < x2 then (x2, y) else (bnd (mA y 3 (upd (y.2.1 3) x2.toNatClampNeg ((y.2.1 3) (x2 &&& (((1 : Int32) <<< ((fX7_lowest x2) &&& 31)) ^^^ (-1))).toNatClampNeg))) (fun r34 => (bnd (fX7_layWorth_82  (x2 &&& (((1 : Int32) <<< ((fX7_lowest x2) &&& 31)) ^^^ (-1))) (fX7_lowest x2) x2 o1  (fuU 2147483647 ((fX7_lowest x2) + 1)) ((fX7_lowest x2) + 1) r34) (fun r57 => (fX7_layWorth_45  o1  fu (x2 + 1) r57.2))))))
def sX7_layWorth_45  (o1 : Int32) : Nat → Int32 → Md → Prop
  | 0, _, _ => False
  | fu + 1, x2, y => ((o1 < x2 → True) ∧ (¬ o1 < x2 → ((sX7_lowest x2) ∧ (vp_in (x2 &&& (((1 : Int32) <<< ((fX7_lowest x2) &&& 31)) ^^^ (-1))) 16384 ∧ (vp_in x2 16384 ∧ (bnd (mA y 3 (upd (y.2.1 3) x2.toNatClampNeg ((y.2.1 3) (x2 &&& (((1 : Int32) <<< ((fX7_lowest x2) &&& 31)) ^^^ (-1))).toNatClampNeg))) (fun r34 => ((sX7_layWorth_82  (x2 &&& (((1 : Int32) <<< ((fX7_lowest x2) &&& 31)) ^^^ (-1))) (fX7_lowest x2) x2 o1  (fuU 2147483647 ((fX7_lowest x2) + 1)) ((fX7_lowest x2) + 1) r34) ∧ bnd (fX7_layWorth_82  (x2 &&& (((1 : Int32) <<< ((fX7_lowest x2) &&& 31)) ^^^ (-1))) (fX7_lowest x2) x2 o1  (fuU 2147483647 ((fX7_lowest x2) + 1)) ((fX7_lowest x2) + 1) r34) (fun r57 => (sX7_layWorth_45  o1  fu (x2 + 1) r57.2))))))))))
set_option maxRecDepth 20000 in
theorem wX7_layWorth_45 {l : Launch} {G : GM} {K : Nat → Option va_E}  (o1 : Int32)  {Q : Option Value → List va_E → Prop} : ∀ (fu : Nat) (x2 : Int32) (y : Md) (hs : sX7_layWorth_45  o1  fu x2 y) {h : List va_E} (gy : HM G K h y) (kx : ∀ (h1 : List va_E) (r : Int32 × Md), (fX7_layWorth_45  o1  fu x2 y) = r → HM G K h1 r.2 → Tr l G mX7_layWorth 5 0 0 144 [(2, .int r.1), (1, .int o1), (0, .ref (gz G + 221))] [] h1 Q), Tr l G mX7_layWorth 5 0 0 45 [(2, .int x2), (1, .int o1), (0, .ref (gz G + 221))] [] h Q := by
  intro fu
  induction fu with
  | zero => intro x2 y hs; intros; exact (show False from hs).elim
  | succ fu ih =>
    intro x2 y  hs  h gy  kx
    rw [sX7_layWorth_45] at hs
    refine am_iload_n dX7_layWorth_45 0 rfl ?_
    refine am_iload_n dX7_layWorth_46 1 rfl ?_
    refine am_icmp_gt dX7_layWorth_47 (by decide : ((47 : Nat) : Int) + (97) = ((144 : Nat) : Int)) (fun c26 => ?_) (fun c26 => ?_)
    · have hs := hs.1 c26
      exact kx _ _ (ifp c26 (rfl)) gy 
    · have hs := hs.2 c26
      refine am_iload_n dX7_layWorth_50 0 rfl ?_
      obtain ⟨i27, hs⟩ := hs
      refine am_callS (As := [.int x2]) (rest := []) dX7_layWorth_51 kMX7_110 rfl  rfl (Nat.le_of_ble_eq_true rfl) (d2 := 1) (by decide) (k2 := 0) (Nat.zero_le _) (u2 := 0) (Nat.zero_le _) (Nat.le_of_ble_eq_true rfl) (ctX7_lowest  x2 i27) (fun v28 h29 q30 => ?_)
      obtain ⟨rfl, rfl⟩ := q30
      refine am_istore_n dX7_layWorth_54 (by decide) (lv' := [(3, .int (fX7_lowest x2)), (2, .int x2), (1, .int o1), (0, .ref (gz G + 221))]) rfl ?_
      refine am_iload_n dX7_layWorth_55 1 rfl ?_
      refine am_iconst (v := 1) dX7_layWorth_56 (by decide) ?_
      refine am_iload_n dX7_layWorth_57 0 rfl ?_
      refine am_ishl dX7_layWorth_58 ?_
      refine am_iconst (v := (-1)) dX7_layWorth_59 (by decide) ?_
      refine am_ixor dX7_layWorth_60 ?_
      refine am_iand dX7_layWorth_61 ?_
      refine am_istore dX7_layWorth_62 (by decide) (lv' := [(4, .int (x2 &&& (((1 : Int32) <<< ((fX7_lowest x2) &&& 31)) ^^^ (-1)))), (3, .int (fX7_lowest x2)), (2, .int x2), (1, .int o1), (0, .ref (gz G + 221))]) rfl ?_
      refine am_aload_n dX7_layWorth_64 4 rfl ?_
      refine am_get (v := .ref (gz G + 225)) dX7_layWorth_65 kGX7_26 (hmc221 (m := y) gy) rfl ?_
      refine am_iload_n dX7_layWorth_68 2 rfl ?_
      refine am_aload_n dX7_layWorth_69 4 rfl ?_
      refine am_get (v := .ref (gz G + 225)) dX7_layWorth_70 kGX7_26 (hmc221 (m := y) gy) rfl ?_
      refine am_iload dX7_layWorth_73 0 rfl ?_
      obtain ⟨i31, hs⟩ := hs
      refine am_iald (f := (y.2.1 3)) dX7_layWorth_75 (hmc225 (m := y) gy) i31 ?_
      obtain ⟨i32, hs⟩ := hs
      refine am_iast (f := (y.2.1 3)) dX7_layWorth_76 (hmc225 (m := y) gy) i32 ?_
      have w33 := hmA3 gy (upd (y.2.1 3) x2.toNatClampNeg ((y.2.1 3) (x2 &&& (((1 : Int32) <<< ((fX7_lowest x2) &&& 31)) ^^^ (-1))).toNatClampNeg))
      obtain ⟨r34, e35⟩ : ∃ x, (mA y 3 (upd (y.2.1 3) x2.toNatClampNeg ((y.2.1 3) (x2 &&& (((1 : Int32) <<< ((fX7_lowest x2) &&& 31)) ^^^ (-1))).toNatClampNeg))) = x := ⟨_, rfl⟩
      have w36 := hm_eq e35 w33
      have hs := bnd_p e35 hs
      refine am_iload_n dX7_layWorth_77 1 rfl ?_
      refine am_iconst (v := 1) dX7_layWorth_78 (by decide) ?_
      refine am_iadd dX7_layWorth_79 ?_
      refine am_istore dX7_layWorth_80 (by decide) (lv' := [(5, .int ((fX7_lowest x2) + 1)), (4, .int (x2 &&& (((1 : Int32) <<< ((fX7_lowest x2) &&& 31)) ^^^ (-1)))), (3, .int (fX7_lowest x2)), (2, .int x2), (1, .int o1), (0, .ref (gz G + 221))]) rfl ?_
      obtain ⟨i56, hs⟩ := hs
      refine wX7_layWorth_82  (x2 &&& (((1 : Int32) <<< ((fX7_lowest x2) &&& 31)) ^^^ (-1))) (fX7_lowest x2) x2 o1  (fuU 2147483647 ((fX7_lowest x2) + 1)) ((fX7_lowest x2) + 1) r34 ivU_i i56 w36  (fun h59 r57 e58 w60  => ?_)
      have hs := bnd_p e58 hs
      refine am_iinc (v := (x2 + 1)) dX7_layWorth_138 3 rfl rfl (by decide) (lv' := [(2, .int (x2 + 1)), (5, .int r57.1), (4, .int (x2 &&& (((1 : Int32) <<< ((fX7_lowest x2) &&& 31)) ^^^ (-1)))), (3, .int (fX7_lowest x2)), (1, .int o1), (0, .ref (gz G + 221))]) rfl ?_
      refine am_goto dX7_layWorth_141 (by decide : ((141 : Nat) : Int) + (-96) = ((45 : Nat) : Int)) ?_
      refine am_lv (lv' := [(2, .int (x2 + 1)), (1, .int o1), (0, .ref (gz G + 221))]) [0, 4, 5] rfl ?_
      exact ih (x2 + 1) r57.2  hs w60  (fun h1 r e => kx h1 r (Eq.trans (ifn c26 (bnd_eq e35 (bnd_eq e58 (rfl)))) e))
def fX7_layWorth (m : Md)  : Int32 × Md := (bnd (fX7_layWorth_2    (fuU 2147483647 0) 0 m) (fun r15 => (bnd (mA r15.2 3 (upd (r15.2.2.1 3) 0 0)) (fun r23 => (bnd (fX7_layWorth_45  (((1 : Int32) <<< ((fX7_count r15.2 ) &&& 31)) - 1)  16400 1 r23) (fun r62 => (((r62.2.2.1 3) (((1 : Int32) <<< ((fX7_count r15.2 ) &&& 31)) - 1).toNatClampNeg), r62.2)))))))
def sX7_layWorth (m : Md)  : Prop := ((sX7_layWorth_2    (fuU 2147483647 0) 0 m) ∧ bnd (fX7_layWorth_2    (fuU 2147483647 0) 0 m) (fun r15 => (bnd (mA r15.2 3 (upd (r15.2.2.1 3) 0 0)) (fun r23 => ((sX7_layWorth_45  (((1 : Int32) <<< ((fX7_count r15.2 ) &&& 31)) - 1)  16400 1 r23) ∧ bnd (fX7_layWorth_45  (((1 : Int32) <<< ((fX7_count r15.2 ) &&& 31)) - 1)  16400 1 r23) (fun r62 => (vp_in (((1 : Int32) <<< ((fX7_count r15.2 ) &&& 31)) - 1) 16384 ∧ True)))))))
set_option maxRecDepth 20000 in
theorem ctX7_layWorth {l : Launch} {G : GM} {K : Nat → Option va_E} {h : List va_E} {m : Md} (hm : HM G K h m)  (hs : sX7_layWorth m ) : Ct l G mX7_layWorth 5 0 0 [.ref (gz G + 221)] h (fun v h1 => ∃ r, (fX7_layWorth m ) = r ∧ v = some (.int r.1) ∧ HM G K h1 r.2) := by
  show Tr l G mX7_layWorth 5 0 0 0 [(0, .ref (gz G + 221))] [] h _
  unfold sX7_layWorth at hs
  refine am_iconst (v := 0) dX7_layWorth_0 (by decide) ?_
  refine am_istore_n dX7_layWorth_1 (by decide) (lv' := [(1, .int 0), (0, .ref (gz G + 221))]) rfl ?_
  obtain ⟨i14, hs⟩ := hs
  refine wX7_layWorth_2    (fuU 2147483647 0) 0 m ivU_i i14 hm  (fun h17 r15 e16 w18  => ?_)
  have hs := bnd_p e16 hs
  refine am_iconst (v := 1) dX7_layWorth_27 (by decide) ?_
  refine am_aload_n dX7_layWorth_28 1 rfl ?_
  refine am_callV (As := []) (rest := [.int 1]) dX7_layWorth_29 kMX7_85 rfl (hmc221 (m := r15.2) w18) rfl rfl (Nat.le_of_ble_eq_true rfl) (d2 := 0) (by decide) (k2 := 0) (Nat.zero_le _) (u2 := 0) (Nat.zero_le _) (Nat.le_of_ble_eq_true rfl) (ctX7_count (m := r15.2) w18  ) (fun v19 h20 q21 => ?_)
  obtain ⟨rfl, rfl⟩ := q21
  refine am_ishl dX7_layWorth_32 ?_
  refine am_iconst (v := 1) dX7_layWorth_33 (by decide) ?_
  refine am_isub dX7_layWorth_34 ?_
  refine am_istore_n dX7_layWorth_35 (by decide) (lv' := [(1, .int (((1 : Int32) <<< ((fX7_count r15.2 ) &&& 31)) - 1)), (0, .ref (gz G + 221))]) rfl ?_
  refine am_aload_n dX7_layWorth_36 1 rfl ?_
  refine am_get (v := .ref (gz G + 225)) dX7_layWorth_37 kGX7_26 (hmc221 (m := r15.2) w18) rfl ?_
  refine am_iconst (v := 0) dX7_layWorth_40 (by decide) ?_
  refine am_iconst (v := 0) dX7_layWorth_41 (by decide) ?_
  refine am_iast (f := (r15.2.2.1 3)) dX7_layWorth_42 (hmc225 (m := r15.2) w18) (vp_lit (by decide)) ?_
  rw [tl0]
  have w22 := hmA3 w18 (upd (r15.2.2.1 3) 0 0)
  obtain ⟨r23, e24⟩ : ∃ x, (mA r15.2 3 (upd (r15.2.2.1 3) 0 0)) = x := ⟨_, rfl⟩
  have w25 := hm_eq e24 w22
  have hs := bnd_p e24 hs
  refine am_iconst (v := 1) dX7_layWorth_43 (by decide) ?_
  refine am_istore_n dX7_layWorth_44 (by decide) (lv' := [(2, .int 1), (1, .int (((1 : Int32) <<< ((fX7_count r15.2 ) &&& 31)) - 1)), (0, .ref (gz G + 221))]) rfl ?_
  obtain ⟨i61, hs⟩ := hs
  refine wX7_layWorth_45  (((1 : Int32) <<< ((fX7_count r15.2 ) &&& 31)) - 1)  16400 1 r23  i61 w25  (fun h64 r62 e63 w65  => ?_)
  have hs := bnd_p e63 hs
  refine am_aload_n dX7_layWorth_144 2 rfl ?_
  refine am_get (v := .ref (gz G + 225)) dX7_layWorth_145 kGX7_26 (hmc221 (m := r62.2) w65) rfl ?_
  refine am_iload_n dX7_layWorth_148 1 rfl ?_
  obtain ⟨i66, hs⟩ := hs
  refine am_iald (f := (r62.2.2.1 3)) dX7_layWorth_149 (hmc225 (m := r62.2) w65) i66 ?_
  exact am_ireturn dX7_layWorth_150 rfl rfl ⟨_, bnd_eq e16 (bnd_eq e24 (bnd_eq e63 (rfl))), rfl, w65⟩

theorem dX7_countPairs_0 : decode cX7_countPairs 0 = .ok (.aload_n 0, 1) := by decide +kernel
theorem dX7_countPairs_1 : decode cX7_countPairs 1 = .ok (.invokevirtual 121, 3) := by decide +kernel
theorem dX7_countPairs_4 : decode cX7_countPairs 4 = .ok (.ldc 117, 2) := by decide +kernel
theorem dX7_countPairs_6 : decode cX7_countPairs 6 = .ok (.iadd, 1) := by decide +kernel
theorem dX7_countPairs_7 : decode cX7_countPairs 7 = .ok (.iconst 1, 1) := by decide +kernel
theorem dX7_countPairs_8 : decode cX7_countPairs 8 = .ok (.isub, 1) := by decide +kernel
theorem dX7_countPairs_9 : decode cX7_countPairs 9 = .ok (.ldc 117, 2) := by decide +kernel
theorem dX7_countPairs_11 : decode cX7_countPairs 11 = .ok (.idiv, 1) := by decide +kernel
theorem dX7_countPairs_12 : decode cX7_countPairs 12 = .ok (.ireturn, 1) := by decide +kernel
def fX7_countPairs (m : Md)  : Int32 × Md := (bnd (fX7_layWorth m ) (fun r5 => ((((r5.1 + 100000) - 1) / 100000), r5.2)))
def sX7_countPairs (m : Md)  : Prop := ((sX7_layWorth m ) ∧ (bnd (fX7_layWorth m ) (fun r5 => True)))
set_option maxRecDepth 20000 in
theorem ctX7_countPairs {l : Launch} {G : GM} {K : Nat → Option va_E} {h : List va_E} {m : Md} (hm : HM G K h m)  (hs : sX7_countPairs m ) : Ct l G mX7_countPairs 6 0 0 [.ref (gz G + 221)] h (fun v h1 => ∃ r, (fX7_countPairs m ) = r ∧ v = some (.int r.1) ∧ HM G K h1 r.2) := by
  show Tr l G mX7_countPairs 6 0 0 0 [(0, .ref (gz G + 221))] [] h _
  unfold sX7_countPairs at hs
  refine am_aload_n dX7_countPairs_0 0 rfl ?_
  obtain ⟨i1, hs⟩ := hs
  refine am_callV (As := []) (rest := []) dX7_countPairs_1 kMX7_121 rfl (hmc221 (m := m) hm) rfl rfl (Nat.le_of_ble_eq_true rfl) (d2 := 5) (by decide) (k2 := 0) (Nat.zero_le _) (u2 := 0) (Nat.zero_le _) (Nat.le_of_ble_eq_true rfl) (ctX7_layWorth (m := m) hm  i1) (fun v2 h3 q4 => ?_)
  obtain ⟨r5, e6, rfl, w7⟩ := q4
  have hs := bnd_p e6 hs
  refine am_ldc (v := 100000) dX7_countPairs_4 kKX7_117 ?_
  refine am_iadd dX7_countPairs_6 ?_
  refine am_iconst (v := 1) dX7_countPairs_7 (by decide) ?_
  refine am_isub dX7_countPairs_8 ?_
  refine am_ldc (v := 100000) dX7_countPairs_9 kKX7_117 ?_
  refine am_idiv dX7_countPairs_11 (by decide) ?_
  exact am_ireturn dX7_countPairs_12 rfl rfl ⟨_, bnd_eq e6 (rfl), rfl, w7⟩

theorem dX7_layPartners_0 : decode cX7_layPartners 0 = .ok (.aload_n 0, 1) := by decide +kernel
theorem dX7_layPartners_1 : decode cX7_layPartners 1 = .ok (.invokevirtual 124, 3) := by decide +kernel
theorem dX7_layPartners_4 : decode cX7_layPartners 4 = .ok (.istore_n 1, 1) := by decide +kernel
theorem dX7_layPartners_5 : decode cX7_layPartners 5 = .ok (.iconst 1, 1) := by decide +kernel
theorem dX7_layPartners_6 : decode cX7_layPartners 6 = .ok (.aload_n 0, 1) := by decide +kernel
theorem dX7_layPartners_7 : decode cX7_layPartners 7 = .ok (.invokevirtual 85, 3) := by decide +kernel
theorem dX7_layPartners_10 : decode cX7_layPartners 10 = .ok (.ishl, 1) := by decide +kernel
theorem dX7_layPartners_11 : decode cX7_layPartners 11 = .ok (.iconst 1, 1) := by decide +kernel
theorem dX7_layPartners_12 : decode cX7_layPartners 12 = .ok (.isub, 1) := by decide +kernel
theorem dX7_layPartners_13 : decode cX7_layPartners 13 = .ok (.istore_n 2, 1) := by decide +kernel
theorem dX7_layPartners_14 : decode cX7_layPartners 14 = .ok (.iconst 0, 1) := by decide +kernel
theorem dX7_layPartners_15 : decode cX7_layPartners 15 = .ok (.istore_n 3, 1) := by decide +kernel
theorem dX7_layPartners_16 : decode cX7_layPartners 16 = .ok (.iload_n 3, 1) := by decide +kernel
theorem dX7_layPartners_17 : decode cX7_layPartners 17 = .ok (.aload_n 0, 1) := by decide +kernel
theorem dX7_layPartners_18 : decode cX7_layPartners 18 = .ok (.invokevirtual 85, 3) := by decide +kernel
theorem dX7_layPartners_21 : decode cX7_layPartners 21 = .ok (.if_icmp .ge 16, 3) := by decide +kernel
theorem dX7_layPartners_24 : decode cX7_layPartners 24 = .ok (.aload_n 0, 1) := by decide +kernel
theorem dX7_layPartners_25 : decode cX7_layPartners 25 = .ok (.getfield 32, 3) := by decide +kernel
theorem dX7_layPartners_28 : decode cX7_layPartners 28 = .ok (.iload_n 3, 1) := by decide +kernel
theorem dX7_layPartners_29 : decode cX7_layPartners 29 = .ok (.iconst (-1), 1) := by decide +kernel
theorem dX7_layPartners_30 : decode cX7_layPartners 30 = .ok (.iastore, 1) := by decide +kernel
theorem dX7_layPartners_31 : decode cX7_layPartners 31 = .ok (.iinc 3 1, 3) := by decide +kernel
theorem dX7_layPartners_34 : decode cX7_layPartners 34 = .ok (.goto (-18), 3) := by decide +kernel
theorem dX7_layPartners_37 : decode cX7_layPartners 37 = .ok (.iload_n 2, 1) := by decide +kernel
theorem dX7_layPartners_38 : decode cX7_layPartners 38 = .ok (.ifCond .eq 125, 3) := by decide +kernel
theorem dX7_layPartners_41 : decode cX7_layPartners 41 = .ok (.iload_n 2, 1) := by decide +kernel
theorem dX7_layPartners_42 : decode cX7_layPartners 42 = .ok (.invokestatic 110, 3) := by decide +kernel
theorem dX7_layPartners_45 : decode cX7_layPartners 45 = .ok (.istore_n 3, 1) := by decide +kernel
theorem dX7_layPartners_46 : decode cX7_layPartners 46 = .ok (.iload_n 2, 1) := by decide +kernel
theorem dX7_layPartners_47 : decode cX7_layPartners 47 = .ok (.iconst 1, 1) := by decide +kernel
theorem dX7_layPartners_48 : decode cX7_layPartners 48 = .ok (.iload_n 3, 1) := by decide +kernel
theorem dX7_layPartners_49 : decode cX7_layPartners 49 = .ok (.ishl, 1) := by decide +kernel
theorem dX7_layPartners_50 : decode cX7_layPartners 50 = .ok (.iconst (-1), 1) := by decide +kernel
theorem dX7_layPartners_51 : decode cX7_layPartners 51 = .ok (.ixor, 1) := by decide +kernel
theorem dX7_layPartners_52 : decode cX7_layPartners 52 = .ok (.iand, 1) := by decide +kernel
theorem dX7_layPartners_53 : decode cX7_layPartners 53 = .ok (.istore 4, 2) := by decide +kernel
theorem dX7_layPartners_55 : decode cX7_layPartners 55 = .ok (.iconst (-1), 1) := by decide +kernel
theorem dX7_layPartners_56 : decode cX7_layPartners 56 = .ok (.istore 5, 2) := by decide +kernel
theorem dX7_layPartners_58 : decode cX7_layPartners 58 = .ok (.aload_n 0, 1) := by decide +kernel
theorem dX7_layPartners_59 : decode cX7_layPartners 59 = .ok (.invokevirtual 85, 3) := by decide +kernel
theorem dX7_layPartners_62 : decode cX7_layPartners 62 = .ok (.iconst 1, 1) := by decide +kernel
theorem dX7_layPartners_63 : decode cX7_layPartners 63 = .ok (.isub, 1) := by decide +kernel
theorem dX7_layPartners_64 : decode cX7_layPartners 64 = .ok (.istore 6, 2) := by decide +kernel
theorem dX7_layPartners_66 : decode cX7_layPartners 66 = .ok (.iload 6, 2) := by decide +kernel
theorem dX7_layPartners_68 : decode cX7_layPartners 68 = .ok (.iload_n 3, 1) := by decide +kernel
theorem dX7_layPartners_69 : decode cX7_layPartners 69 = .ok (.if_icmp .le 48, 3) := by decide +kernel
theorem dX7_layPartners_72 : decode cX7_layPartners 72 = .ok (.aload_n 0, 1) := by decide +kernel
theorem dX7_layPartners_73 : decode cX7_layPartners 73 = .ok (.getfield 29, 3) := by decide +kernel
theorem dX7_layPartners_76 : decode cX7_layPartners 76 = .ok (.iload_n 3, 1) := by decide +kernel
theorem dX7_layPartners_77 : decode cX7_layPartners 77 = .ok (.iaload, 1) := by decide +kernel
theorem dX7_layPartners_78 : decode cX7_layPartners 78 = .ok (.iload 4, 2) := by decide +kernel
theorem dX7_layPartners_80 : decode cX7_layPartners 80 = .ok (.iand, 1) := by decide +kernel
theorem dX7_layPartners_81 : decode cX7_layPartners 81 = .ok (.iload 6, 2) := by decide +kernel
theorem dX7_layPartners_83 : decode cX7_layPartners 83 = .ok (.invokestatic 104, 3) := by decide +kernel
theorem dX7_layPartners_86 : decode cX7_layPartners 86 = .ok (.ifCond .eq 25, 3) := by decide +kernel
theorem dX7_layPartners_89 : decode cX7_layPartners 89 = .ok (.aload_n 0, 1) := by decide +kernel
theorem dX7_layPartners_90 : decode cX7_layPartners 90 = .ok (.iload_n 3, 1) := by decide +kernel
theorem dX7_layPartners_91 : decode cX7_layPartners 91 = .ok (.iload 6, 2) := by decide +kernel
theorem dX7_layPartners_93 : decode cX7_layPartners 93 = .ok (.iload 4, 2) := by decide +kernel
theorem dX7_layPartners_95 : decode cX7_layPartners 95 = .ok (.invokevirtual 113, 3) := by decide +kernel
theorem dX7_layPartners_98 : decode cX7_layPartners 98 = .ok (.aload_n 0, 1) := by decide +kernel
theorem dX7_layPartners_99 : decode cX7_layPartners 99 = .ok (.getfield 26, 3) := by decide +kernel
theorem dX7_layPartners_102 : decode cX7_layPartners 102 = .ok (.iload_n 2, 1) := by decide +kernel
theorem dX7_layPartners_103 : decode cX7_layPartners 103 = .ok (.iaload, 1) := by decide +kernel
theorem dX7_layPartners_104 : decode cX7_layPartners 104 = .ok (.if_icmp .ne 7, 3) := by decide +kernel
theorem dX7_layPartners_107 : decode cX7_layPartners 107 = .ok (.iload 6, 2) := by decide +kernel
theorem dX7_layPartners_109 : decode cX7_layPartners 109 = .ok (.istore 5, 2) := by decide +kernel
theorem dX7_layPartners_111 : decode cX7_layPartners 111 = .ok (.iinc 6 (-1), 3) := by decide +kernel
theorem dX7_layPartners_114 : decode cX7_layPartners 114 = .ok (.goto (-48), 3) := by decide +kernel
theorem dX7_layPartners_117 : decode cX7_layPartners 117 = .ok (.aload_n 0, 1) := by decide +kernel
theorem dX7_layPartners_118 : decode cX7_layPartners 118 = .ok (.getfield 32, 3) := by decide +kernel
theorem dX7_layPartners_121 : decode cX7_layPartners 121 = .ok (.iload_n 3, 1) := by decide +kernel
theorem dX7_layPartners_122 : decode cX7_layPartners 122 = .ok (.iload 5, 2) := by decide +kernel
theorem dX7_layPartners_124 : decode cX7_layPartners 124 = .ok (.iastore, 1) := by decide +kernel
theorem dX7_layPartners_125 : decode cX7_layPartners 125 = .ok (.iload 5, 2) := by decide +kernel
theorem dX7_layPartners_127 : decode cX7_layPartners 127 = .ok (.iconst (-1), 1) := by decide +kernel
theorem dX7_layPartners_128 : decode cX7_layPartners 128 = .ok (.if_icmp .eq 11, 3) := by decide +kernel
theorem dX7_layPartners_131 : decode cX7_layPartners 131 = .ok (.aload_n 0, 1) := by decide +kernel
theorem dX7_layPartners_132 : decode cX7_layPartners 132 = .ok (.getfield 32, 3) := by decide +kernel
theorem dX7_layPartners_135 : decode cX7_layPartners 135 = .ok (.iload 5, 2) := by decide +kernel
theorem dX7_layPartners_137 : decode cX7_layPartners 137 = .ok (.iload_n 3, 1) := by decide +kernel
theorem dX7_layPartners_138 : decode cX7_layPartners 138 = .ok (.iastore, 1) := by decide +kernel
theorem dX7_layPartners_139 : decode cX7_layPartners 139 = .ok (.iload 5, 2) := by decide +kernel
theorem dX7_layPartners_141 : decode cX7_layPartners 141 = .ok (.iconst (-1), 1) := by decide +kernel
theorem dX7_layPartners_142 : decode cX7_layPartners 142 = .ok (.if_icmp .ne 8, 3) := by decide +kernel
theorem dX7_layPartners_145 : decode cX7_layPartners 145 = .ok (.iload 4, 2) := by decide +kernel
theorem dX7_layPartners_147 : decode cX7_layPartners 147 = .ok (.goto 12, 3) := by decide +kernel
theorem dX7_layPartners_150 : decode cX7_layPartners 150 = .ok (.iload 4, 2) := by decide +kernel
theorem dX7_layPartners_152 : decode cX7_layPartners 152 = .ok (.iconst 1, 1) := by decide +kernel
theorem dX7_layPartners_153 : decode cX7_layPartners 153 = .ok (.iload 5, 2) := by decide +kernel
theorem dX7_layPartners_155 : decode cX7_layPartners 155 = .ok (.ishl, 1) := by decide +kernel
theorem dX7_layPartners_156 : decode cX7_layPartners 156 = .ok (.iconst (-1), 1) := by decide +kernel
theorem dX7_layPartners_157 : decode cX7_layPartners 157 = .ok (.ixor, 1) := by decide +kernel
theorem dX7_layPartners_158 : decode cX7_layPartners 158 = .ok (.iand, 1) := by decide +kernel
theorem dX7_layPartners_159 : decode cX7_layPartners 159 = .ok (.istore_n 2, 1) := by decide +kernel
theorem dX7_layPartners_160 : decode cX7_layPartners 160 = .ok (.goto (-123), 3) := by decide +kernel
theorem dX7_layPartners_163 : decode cX7_layPartners 163 = .ok (.iload_n 1, 1) := by decide +kernel
theorem dX7_layPartners_164 : decode cX7_layPartners 164 = .ok (.ireturn, 1) := by decide +kernel
def fX7_layPartners_16  (o2 : Int32) (o1 : Int32) : Nat → Int32 → Md → Int32 × Md
  | 0, x3, y => (x3, y)
  | fu + 1, x3, y => (if (fX7_count y ) ≤ x3 then (x3, y) else (bnd (mA y 5 (upd (y.2.1 5) x3.toNatClampNeg (-1))) (fun r17 => (fX7_layPartners_16  o2 o1  fu (x3 + 1) r17))))
def sX7_layPartners_16  (o2 : Int32) (o1 : Int32) : Nat → Int32 → Md → Prop
  | 0, _, _ => True
  | fu + 1, x3, y => (((fX7_count y ) ≤ x3 → True) ∧ (¬ (fX7_count y ) ≤ x3 → (vp_in x3 14 ∧ (bnd (mA y 5 (upd (y.2.1 5) x3.toNatClampNeg (-1))) (fun r17 => (sX7_layPartners_16  o2 o1  fu (x3 + 1) r17))))))
set_option maxRecDepth 20000 in
theorem wX7_layPartners_16 {l : Launch} {G : GM} {K : Nat → Option va_E}  (o2 : Int32) (o1 : Int32)  {Q : Option Value → List va_E → Prop} : ∀ (fu : Nat) (x3 : Int32) (y : Md) (iv : ivU 2147483647 x3 fu) (hs : sX7_layPartners_16  o2 o1  fu x3 y) {h : List va_E} (gy : HM G K h y) (kx : ∀ (h1 : List va_E) (r : Int32 × Md), (fX7_layPartners_16  o2 o1  fu x3 y) = r → HM G K h1 r.2 → Tr l G mX7_layPartners 7 0 0 37 [(3, .int r.1), (2, .int o2), (1, .int o1), (0, .ref (gz G + 221))] [] h1 Q), Tr l G mX7_layPartners 7 0 0 16 [(3, .int x3), (2, .int o2), (1, .int o1), (0, .ref (gz G + 221))] [] h Q := by
  intro fu
  induction fu with
  | zero => intro x3 y iv; intros; exact absurd iv ivU_0
  | succ fu ih =>
    intro x3 y iv hs  h gy  kx
    rw [sX7_layPartners_16] at hs
    refine am_iload_n dX7_layPartners_16 0 rfl ?_
    refine am_aload_n dX7_layPartners_17 3 rfl ?_
    refine am_callV (As := []) (rest := [.int x3]) dX7_layPartners_18 kMX7_85 rfl (hmc221 (m := y) gy) rfl rfl (Nat.le_of_ble_eq_true rfl) (d2 := 0) (by decide) (k2 := 0) (Nat.zero_le _) (u2 := 0) (Nat.zero_le _) (Nat.le_of_ble_eq_true rfl) (ctX7_count (m := y) gy  ) (fun v11 h12 q13 => ?_)
    obtain ⟨rfl, rfl⟩ := q13
    refine am_icmp_ge dX7_layPartners_21 (by decide : ((21 : Nat) : Int) + (16) = ((37 : Nat) : Int)) (fun c14 => ?_) (fun c14 => ?_)
    · have hs := hs.1 c14
      exact kx _ _ (ifp c14 (rfl)) gy 
    · have hs := hs.2 c14
      refine am_aload_n dX7_layPartners_24 3 rfl ?_
      refine am_get (v := .ref (gz G + 227)) dX7_layPartners_25 kGX7_32 (hmc221 (m := y) gy) rfl ?_
      refine am_iload_n dX7_layPartners_28 0 rfl ?_
      refine am_iconst (v := (-1)) dX7_layPartners_29 (by decide) ?_
      obtain ⟨i15, hs⟩ := hs
      refine am_iast (f := (y.2.1 5)) dX7_layPartners_30 (hmc227 (m := y) gy) i15 ?_
      have w16 := hmA5 gy (upd (y.2.1 5) x3.toNatClampNeg (-1))
      obtain ⟨r17, e18⟩ : ∃ x, (mA y 5 (upd (y.2.1 5) x3.toNatClampNeg (-1))) = x := ⟨_, rfl⟩
      have w19 := hm_eq e18 w16
      have hs := bnd_p e18 hs
      refine am_iinc (v := (x3 + 1)) dX7_layPartners_31 0 rfl rfl (by decide) (lv' := [(3, .int (x3 + 1)), (2, .int o2), (1, .int o1), (0, .ref (gz G + 221))]) rfl ?_
      refine am_goto dX7_layPartners_34 (by decide : ((34 : Nat) : Int) + (-18) = ((16 : Nat) : Int)) ?_
      exact ih (x3 + 1) r17 (ivU_s (iv_top c14) iv) hs w19  (fun h1 r e => kx h1 r (Eq.trans (ifn c14 (bnd_eq e18 (rfl))) e))
def fX7_layPartners_66  (o4 : Int32) (o3 : Int32) (o2 : Int32) (o1 : Int32) (m : Md) : Nat → Int32 → Int32 → Int32 × Int32
  | 0, x6, x5 => (x6, x5)
  | fu + 1, x6, x5 => (if x6 ≤ o3 then (x6, x5) else (if (fX7_hasBit (((m.2.1 4) o3.toNatClampNeg) &&& o4) x6) = 0 then (fX7_layPartners_66  o4 o3 o2 o1 m fu (x6 + (-1)) x5 ) else (if (fX7_worthWith m o3 x6 o4) = ((m.2.1 3) o2.toNatClampNeg) then (fX7_layPartners_66  o4 o3 o2 o1 m fu (x6 + (-1)) x6 ) else (fX7_layPartners_66  o4 o3 o2 o1 m fu (x6 + (-1)) x5 ))))
def sX7_layPartners_66  (o4 : Int32) (o3 : Int32) (o2 : Int32) (o1 : Int32) (m : Md) : Nat → Int32 → Int32 → Prop
  | 0, _, _ => False
  | fu + 1, x6, x5 => ((x6 ≤ o3 → True) ∧ (¬ x6 ≤ o3 → (vp_in o3 14 ∧ (((fX7_hasBit (((m.2.1 4) o3.toNatClampNeg) &&& o4) x6) = 0 → (sX7_layPartners_66  o4 o3 o2 o1 m fu (x6 + (-1)) x5 )) ∧ (¬ (fX7_hasBit (((m.2.1 4) o3.toNatClampNeg) &&& o4) x6) = 0 → ((sX7_worthWith m o3 x6 o4) ∧ (vp_in o2 16384 ∧ (((fX7_worthWith m o3 x6 o4) = ((m.2.1 3) o2.toNatClampNeg) → (sX7_layPartners_66  o4 o3 o2 o1 m fu (x6 + (-1)) x6 )) ∧ (¬ (fX7_worthWith m o3 x6 o4) = ((m.2.1 3) o2.toNatClampNeg) → (sX7_layPartners_66  o4 o3 o2 o1 m fu (x6 + (-1)) x5 ))))))))))
set_option maxRecDepth 20000 in
theorem wX7_layPartners_66 {l : Launch} {G : GM} {K : Nat → Option va_E}  (o4 : Int32) (o3 : Int32) (o2 : Int32) (o1 : Int32)  {h : List va_E} {m : Md} (hm : HM G K h m) {Q : Option Value → List va_E → Prop} : ∀ (fu : Nat) (x6 x5 : Int32) (hs : sX7_layPartners_66  o4 o3 o2 o1 m fu x6 x5 ) (kx : ∀ (r : Int32 × Int32), (fX7_layPartners_66  o4 o3 o2 o1 m fu x6 x5 ) = r → Tr l G mX7_layPartners 7 0 0 117 [(6, .int r.1), (5, .int r.2), (4, .int o4), (3, .int o3), (2, .int o2), (1, .int o1), (0, .ref (gz G + 221))] [] h Q), Tr l G mX7_layPartners 7 0 0 66 [(6, .int x6), (5, .int x5), (4, .int o4), (3, .int o3), (2, .int o2), (1, .int o1), (0, .ref (gz G + 221))] [] h Q := by
  intro fu
  induction fu with
  | zero => intro x6 x5 hs; intros; exact (show False from hs).elim
  | succ fu ih =>
    intro x6 x5  hs    kx
    rw [sX7_layPartners_66] at hs
    refine am_iload dX7_layPartners_66 0 rfl ?_
    refine am_iload_n dX7_layPartners_68 3 rfl ?_
    refine am_icmp_le dX7_layPartners_69 (by decide : ((69 : Nat) : Int) + (48) = ((117 : Nat) : Int)) (fun c33 => ?_) (fun c33 => ?_)
    · have hs := hs.1 c33
      exact kx _ (ifp c33 (rfl))
    · have hs := hs.2 c33
      refine am_aload_n dX7_layPartners_72 6 rfl ?_
      refine am_get (v := .ref (gz G + 226)) dX7_layPartners_73 kGX7_29 (hmc221 (m := m) hm) rfl ?_
      refine am_iload_n dX7_layPartners_76 3 rfl ?_
      obtain ⟨i34, hs⟩ := hs
      refine am_iald (f := (m.2.1 4)) dX7_layPartners_77 (hmc226 (m := m) hm) i34 ?_
      refine am_iload dX7_layPartners_78 2 rfl ?_
      refine am_iand dX7_layPartners_80 ?_
      refine am_iload dX7_layPartners_81 0 rfl ?_
      refine am_callS (As := [.int (((m.2.1 4) o3.toNatClampNeg) &&& o4), .int x6]) (rest := []) dX7_layPartners_83 kMX7_104 rfl  rfl (Nat.le_of_ble_eq_true rfl) (d2 := 0) (by decide) (k2 := 0) (Nat.zero_le _) (u2 := 0) (Nat.zero_le _) (Nat.le_of_ble_eq_true rfl) (ctX7_hasBit  (((m.2.1 4) o3.toNatClampNeg) &&& o4) x6 ) (fun v35 h36 q37 => ?_)
      obtain ⟨rfl, rfl⟩ := q37
      refine am_if_eq dX7_layPartners_86 (by decide : ((86 : Nat) : Int) + (25) = ((111 : Nat) : Int)) (fun c38 => ?_) (fun c38 => ?_)
      · have hs := hs.1 c38
        refine am_iinc (v := (x6 + (-1))) dX7_layPartners_111 0 rfl rfl (by decide) (lv' := [(6, .int (x6 + (-1))), (5, .int x5), (4, .int o4), (3, .int o3), (2, .int o2), (1, .int o1), (0, .ref (gz G + 221))]) rfl ?_
        refine am_goto dX7_layPartners_114 (by decide : ((114 : Nat) : Int) + (-48) = ((66 : Nat) : Int)) ?_
        exact ih (x6 + (-1)) x5  hs (fun r e => kx r (Eq.trans (ifn c33 (ifp c38 (rfl))) e))
      · have hs := hs.2 c38
        refine am_aload_n dX7_layPartners_89 6 rfl ?_
        refine am_iload_n dX7_layPartners_90 3 rfl ?_
        refine am_iload dX7_layPartners_91 0 rfl ?_
        refine am_iload dX7_layPartners_93 2 rfl ?_
        obtain ⟨i39, hs⟩ := hs
        refine am_callV (As := [.int o3, .int x6, .int o4]) (rest := []) dX7_layPartners_95 kMX7_113 rfl (hmc221 (m := m) hm) rfl rfl (Nat.le_of_ble_eq_true rfl) (d2 := 3) (by decide) (k2 := 0) (Nat.zero_le _) (u2 := 0) (Nat.zero_le _) (Nat.le_of_ble_eq_true rfl) (ctX7_worthWith (m := m) hm o3 x6 o4 i39) (fun v40 h41 q42 => ?_)
        obtain ⟨rfl, rfl⟩ := q42
        refine am_aload_n dX7_layPartners_98 6 rfl ?_
        refine am_get (v := .ref (gz G + 225)) dX7_layPartners_99 kGX7_26 (hmc221 (m := m) hm) rfl ?_
        refine am_iload_n dX7_layPartners_102 4 rfl ?_
        obtain ⟨i43, hs⟩ := hs
        refine am_iald (f := (m.2.1 3)) dX7_layPartners_103 (hmc225 (m := m) hm) i43 ?_
        refine am_icmp_ne dX7_layPartners_104 (by decide : ((104 : Nat) : Int) + (7) = ((111 : Nat) : Int)) (fun c44 => ?_) (fun c44 => ?_)
        · have hs := hs.2 c44
          refine am_iinc (v := (x6 + (-1))) dX7_layPartners_111 0 rfl rfl (by decide) (lv' := [(6, .int (x6 + (-1))), (5, .int x5), (4, .int o4), (3, .int o3), (2, .int o2), (1, .int o1), (0, .ref (gz G + 221))]) rfl ?_
          refine am_goto dX7_layPartners_114 (by decide : ((114 : Nat) : Int) + (-48) = ((66 : Nat) : Int)) ?_
          exact ih (x6 + (-1)) x5  hs (fun r e => kx r (Eq.trans (ifn c33 (ifn c38 (ifn c44 (rfl)))) e))
        · have hs := hs.1 c44
          refine am_iload dX7_layPartners_107 0 rfl ?_
          refine am_istore dX7_layPartners_109 (by decide) (lv' := [(5, .int x6), (6, .int x6), (4, .int o4), (3, .int o3), (2, .int o2), (1, .int o1), (0, .ref (gz G + 221))]) rfl ?_
          refine am_iinc (v := (x6 + (-1))) dX7_layPartners_111 1 rfl rfl (by decide) (lv' := [(6, .int (x6 + (-1))), (5, .int x6), (4, .int o4), (3, .int o3), (2, .int o2), (1, .int o1), (0, .ref (gz G + 221))]) rfl ?_
          refine am_goto dX7_layPartners_114 (by decide : ((114 : Nat) : Int) + (-48) = ((66 : Nat) : Int)) ?_
          exact ih (x6 + (-1)) x6  hs (fun r e => kx r (Eq.trans (ifn c33 (ifn c38 (ifp c44 (rfl)))) e))
def fX7_layPartners_37  (o1 : Int32) : Nat → Int32 → Md → Int32 × Md
  | 0, x2, y => (x2, y)
  | fu + 1, x2, y => (if x2 = 0 then (x2, y) else (bnd (fX7_layPartners_66  (x2 &&& (((1 : Int32) <<< ((fX7_lowest x2) &&& 31)) ^^^ (-1))) (fX7_lowest x2) x2 o1 y 20 ((fX7_count y ) - 1) (-1) ) (fun r46 => (bnd (mA y 5 (upd (y.2.1 5) (fX7_lowest x2).toNatClampNeg r46.2)) (fun r50 => (if r46.2 = (-1) then (fX7_layPartners_37  o1  fu (x2 &&& (((1 : Int32) <<< ((fX7_lowest x2) &&& 31)) ^^^ (-1))) r50) else (bnd (mA r50 5 (upd (r50.2.1 5) r46.2.toNatClampNeg (fX7_lowest x2))) (fun r57 => (fX7_layPartners_37  o1  fu ((x2 &&& (((1 : Int32) <<< ((fX7_lowest x2) &&& 31)) ^^^ (-1))) &&& (((1 : Int32) <<< (r46.2 &&& 31)) ^^^ (-1))) r57)))))))))
def sX7_layPartners_37  (o1 : Int32) : Nat → Int32 → Md → Prop
  | 0, _, _ => False
  | fu + 1, x2, y => ((x2 = 0 → True) ∧ (¬ x2 = 0 → ((sX7_lowest x2) ∧ ((sX7_layPartners_66  (x2 &&& (((1 : Int32) <<< ((fX7_lowest x2) &&& 31)) ^^^ (-1))) (fX7_lowest x2) x2 o1 y 20 ((fX7_count y ) - 1) (-1) ) ∧ bnd (fX7_layPartners_66  (x2 &&& (((1 : Int32) <<< ((fX7_lowest x2) &&& 31)) ^^^ (-1))) (fX7_lowest x2) x2 o1 y 20 ((fX7_count y ) - 1) (-1) ) (fun r46 => (vp_in (fX7_lowest x2) 14 ∧ (bnd (mA y 5 (upd (y.2.1 5) (fX7_lowest x2).toNatClampNeg r46.2)) (fun r50 => ((r46.2 = (-1) → (sX7_layPartners_37  o1  fu (x2 &&& (((1 : Int32) <<< ((fX7_lowest x2) &&& 31)) ^^^ (-1))) r50)) ∧ (¬ r46.2 = (-1) → (vp_in r46.2 14 ∧ (bnd (mA r50 5 (upd (r50.2.1 5) r46.2.toNatClampNeg (fX7_lowest x2))) (fun r57 => (sX7_layPartners_37  o1  fu ((x2 &&& (((1 : Int32) <<< ((fX7_lowest x2) &&& 31)) ^^^ (-1))) &&& (((1 : Int32) <<< (r46.2 &&& 31)) ^^^ (-1))) r57))))))))))))))
set_option maxRecDepth 20000 in
theorem wX7_layPartners_37 {l : Launch} {G : GM} {K : Nat → Option va_E}  (o1 : Int32)  {Q : Option Value → List va_E → Prop} : ∀ (fu : Nat) (x2 : Int32) (y : Md) (hs : sX7_layPartners_37  o1  fu x2 y) {h : List va_E} (gy : HM G K h y) (kx : ∀ (h1 : List va_E) (r : Int32 × Md), (fX7_layPartners_37  o1  fu x2 y) = r → HM G K h1 r.2 → Tr l G mX7_layPartners 7 0 0 163 [(2, .int r.1), (1, .int o1), (0, .ref (gz G + 221))] [] h1 Q), Tr l G mX7_layPartners 7 0 0 37 [(2, .int x2), (1, .int o1), (0, .ref (gz G + 221))] [] h Q := by
  intro fu
  induction fu with
  | zero => intro x2 y hs; intros; exact (show False from hs).elim
  | succ fu ih =>
    intro x2 y  hs  h gy  kx
    rw [sX7_layPartners_37] at hs
    refine am_iload_n dX7_layPartners_37 0 rfl ?_
    refine am_if_eq dX7_layPartners_38 (by decide : ((38 : Nat) : Int) + (125) = ((163 : Nat) : Int)) (fun c25 => ?_) (fun c25 => ?_)
    · have hs := hs.1 c25
      exact kx _ _ (ifp c25 (rfl)) gy 
    · have hs := hs.2 c25
      refine am_iload_n dX7_layPartners_41 0 rfl ?_
      obtain ⟨i26, hs⟩ := hs
      refine am_callS (As := [.int x2]) (rest := []) dX7_layPartners_42 kMX7_110 rfl  rfl (Nat.le_of_ble_eq_true rfl) (d2 := 1) (by decide) (k2 := 0) (Nat.zero_le _) (u2 := 0) (Nat.zero_le _) (Nat.le_of_ble_eq_true rfl) (ctX7_lowest  x2 i26) (fun v27 h28 q29 => ?_)
      obtain ⟨rfl, rfl⟩ := q29
      refine am_istore_n dX7_layPartners_45 (by decide) (lv' := [(3, .int (fX7_lowest x2)), (2, .int x2), (1, .int o1), (0, .ref (gz G + 221))]) rfl ?_
      refine am_iload_n dX7_layPartners_46 1 rfl ?_
      refine am_iconst (v := 1) dX7_layPartners_47 (by decide) ?_
      refine am_iload_n dX7_layPartners_48 0 rfl ?_
      refine am_ishl dX7_layPartners_49 ?_
      refine am_iconst (v := (-1)) dX7_layPartners_50 (by decide) ?_
      refine am_ixor dX7_layPartners_51 ?_
      refine am_iand dX7_layPartners_52 ?_
      refine am_istore dX7_layPartners_53 (by decide) (lv' := [(4, .int (x2 &&& (((1 : Int32) <<< ((fX7_lowest x2) &&& 31)) ^^^ (-1)))), (3, .int (fX7_lowest x2)), (2, .int x2), (1, .int o1), (0, .ref (gz G + 221))]) rfl ?_
      refine am_iconst (v := (-1)) dX7_layPartners_55 (by decide) ?_
      refine am_istore dX7_layPartners_56 (by decide) (lv' := [(5, .int (-1)), (4, .int (x2 &&& (((1 : Int32) <<< ((fX7_lowest x2) &&& 31)) ^^^ (-1)))), (3, .int (fX7_lowest x2)), (2, .int x2), (1, .int o1), (0, .ref (gz G + 221))]) rfl ?_
      refine am_aload_n dX7_layPartners_58 5 rfl ?_
      refine am_callV (As := []) (rest := []) dX7_layPartners_59 kMX7_85 rfl (hmc221 (m := y) gy) rfl rfl (Nat.le_of_ble_eq_true rfl) (d2 := 0) (by decide) (k2 := 0) (Nat.zero_le _) (u2 := 0) (Nat.zero_le _) (Nat.le_of_ble_eq_true rfl) (ctX7_count (m := y) gy  ) (fun v30 h31 q32 => ?_)
      obtain ⟨rfl, rfl⟩ := q32
      refine am_iconst (v := 1) dX7_layPartners_62 (by decide) ?_
      refine am_isub dX7_layPartners_63 ?_
      refine am_istore dX7_layPartners_64 (by decide) (lv' := [(6, .int ((fX7_count y ) - 1)), (5, .int (-1)), (4, .int (x2 &&& (((1 : Int32) <<< ((fX7_lowest x2) &&& 31)) ^^^ (-1)))), (3, .int (fX7_lowest x2)), (2, .int x2), (1, .int o1), (0, .ref (gz G + 221))]) rfl ?_
      obtain ⟨i45, hs⟩ := hs
      refine wX7_layPartners_66  (x2 &&& (((1 : Int32) <<< ((fX7_lowest x2) &&& 31)) ^^^ (-1))) (fX7_lowest x2) x2 o1  gy 20 ((fX7_count y ) - 1) (-1)  i45 (fun r46 e47 => ?_)
      have hs := bnd_p e47 hs
      refine am_aload_n dX7_layPartners_117 6 rfl ?_
      refine am_get (v := .ref (gz G + 227)) dX7_layPartners_118 kGX7_32 (hmc221 (m := y) gy) rfl ?_
      refine am_iload_n dX7_layPartners_121 3 rfl ?_
      refine am_iload dX7_layPartners_122 1 rfl ?_
      obtain ⟨i48, hs⟩ := hs
      refine am_iast (f := (y.2.1 5)) dX7_layPartners_124 (hmc227 (m := y) gy) i48 ?_
      have w49 := hmA5 gy (upd (y.2.1 5) (fX7_lowest x2).toNatClampNeg r46.2)
      obtain ⟨r50, e51⟩ : ∃ x, (mA y 5 (upd (y.2.1 5) (fX7_lowest x2).toNatClampNeg r46.2)) = x := ⟨_, rfl⟩
      have w52 := hm_eq e51 w49
      have hs := bnd_p e51 hs
      refine am_iload dX7_layPartners_125 1 rfl ?_
      refine am_iconst (v := (-1)) dX7_layPartners_127 (by decide) ?_
      refine am_icmp_eq dX7_layPartners_128 (by decide : ((128 : Nat) : Int) + (11) = ((139 : Nat) : Int)) (fun c53 => ?_) (fun c53 => ?_)
      · have hs := hs.1 c53
        refine am_iload dX7_layPartners_139 1 rfl ?_
        refine am_iconst (v := (-1)) dX7_layPartners_141 (by decide) ?_
        refine am_icmp_ne dX7_layPartners_142 (by decide : ((142 : Nat) : Int) + (8) = ((150 : Nat) : Int)) (fun q => absurd c53 q) (fun _ => ?_)
        refine am_iload dX7_layPartners_145 2 rfl ?_
        refine am_goto dX7_layPartners_147 (by decide : ((147 : Nat) : Int) + (12) = ((159 : Nat) : Int)) ?_
        refine am_istore_n dX7_layPartners_159 (by decide) (lv' := [(2, .int (x2 &&& (((1 : Int32) <<< ((fX7_lowest x2) &&& 31)) ^^^ (-1)))), (6, .int r46.1), (5, .int r46.2), (4, .int (x2 &&& (((1 : Int32) <<< ((fX7_lowest x2) &&& 31)) ^^^ (-1)))), (3, .int (fX7_lowest x2)), (1, .int o1), (0, .ref (gz G + 221))]) rfl ?_
        refine am_goto dX7_layPartners_160 (by decide : ((160 : Nat) : Int) + (-123) = ((37 : Nat) : Int)) ?_
        refine am_lv (lv' := [(2, .int (x2 &&& (((1 : Int32) <<< ((fX7_lowest x2) &&& 31)) ^^^ (-1)))), (1, .int o1), (0, .ref (gz G + 221))]) [0, 5, 6] rfl ?_
        exact ih (x2 &&& (((1 : Int32) <<< ((fX7_lowest x2) &&& 31)) ^^^ (-1))) r50  hs w52  (fun h1 r e => kx h1 r (Eq.trans (ifn c25 (bnd_eq e47 (bnd_eq e51 (ifp c53 (rfl))))) e))
      · have hs := hs.2 c53
        refine am_aload_n dX7_layPartners_131 6 rfl ?_
        refine am_get (v := .ref (gz G + 227)) dX7_layPartners_132 kGX7_32 (hmc221 (m := r50) w52) rfl ?_
        refine am_iload dX7_layPartners_135 1 rfl ?_
        refine am_iload_n dX7_layPartners_137 3 rfl ?_
        obtain ⟨i55, hs⟩ := hs
        refine am_iast (f := (r50.2.1 5)) dX7_layPartners_138 (hmc227 (m := r50) w52) i55 ?_
        have w56 := hmA5 w52 (upd (r50.2.1 5) r46.2.toNatClampNeg (fX7_lowest x2))
        obtain ⟨r57, e58⟩ : ∃ x, (mA r50 5 (upd (r50.2.1 5) r46.2.toNatClampNeg (fX7_lowest x2))) = x := ⟨_, rfl⟩
        have w59 := hm_eq e58 w56
        have hs := bnd_p e58 hs
        refine am_iload dX7_layPartners_139 1 rfl ?_
        refine am_iconst (v := (-1)) dX7_layPartners_141 (by decide) ?_
        refine am_icmp_ne dX7_layPartners_142 (by decide : ((142 : Nat) : Int) + (8) = ((150 : Nat) : Int)) (fun _ => ?_) (fun q => absurd q c53)
        refine am_iload dX7_layPartners_150 2 rfl ?_
        refine am_iconst (v := 1) dX7_layPartners_152 (by decide) ?_
        refine am_iload dX7_layPartners_153 1 rfl ?_
        refine am_ishl dX7_layPartners_155 ?_
        refine am_iconst (v := (-1)) dX7_layPartners_156 (by decide) ?_
        refine am_ixor dX7_layPartners_157 ?_
        refine am_iand dX7_layPartners_158 ?_
        refine am_istore_n dX7_layPartners_159 (by decide) (lv' := [(2, .int ((x2 &&& (((1 : Int32) <<< ((fX7_lowest x2) &&& 31)) ^^^ (-1))) &&& (((1 : Int32) <<< (r46.2 &&& 31)) ^^^ (-1)))), (6, .int r46.1), (5, .int r46.2), (4, .int (x2 &&& (((1 : Int32) <<< ((fX7_lowest x2) &&& 31)) ^^^ (-1)))), (3, .int (fX7_lowest x2)), (1, .int o1), (0, .ref (gz G + 221))]) rfl ?_
        refine am_goto dX7_layPartners_160 (by decide : ((160 : Nat) : Int) + (-123) = ((37 : Nat) : Int)) ?_
        refine am_lv (lv' := [(2, .int ((x2 &&& (((1 : Int32) <<< ((fX7_lowest x2) &&& 31)) ^^^ (-1))) &&& (((1 : Int32) <<< (r46.2 &&& 31)) ^^^ (-1)))), (1, .int o1), (0, .ref (gz G + 221))]) [0, 5, 6] rfl ?_
        exact ih ((x2 &&& (((1 : Int32) <<< ((fX7_lowest x2) &&& 31)) ^^^ (-1))) &&& (((1 : Int32) <<< (r46.2 &&& 31)) ^^^ (-1))) r57  hs w59  (fun h1 r e => kx h1 r (Eq.trans (ifn c25 (bnd_eq e47 (bnd_eq e51 (ifn c53 (bnd_eq e58 (rfl)))))) e))
def fX7_layPartners (m : Md)  : Int32 × Md := (bnd (fX7_countPairs m ) (fun r5 => (bnd (fX7_layPartners_16  (((1 : Int32) <<< ((fX7_count r5.2 ) &&& 31)) - 1) r5.1  (fuU 2147483647 0) 0 r5.2) (fun r21 => (bnd (fX7_layPartners_37  r5.1  20 (((1 : Int32) <<< ((fX7_count r5.2 ) &&& 31)) - 1) r21.2) (fun r62 => (r5.1, r62.2)))))))
def sX7_layPartners (m : Md)  : Prop := ((sX7_countPairs m ) ∧ (bnd (fX7_countPairs m ) (fun r5 => ((sX7_layPartners_16  (((1 : Int32) <<< ((fX7_count r5.2 ) &&& 31)) - 1) r5.1  (fuU 2147483647 0) 0 r5.2) ∧ bnd (fX7_layPartners_16  (((1 : Int32) <<< ((fX7_count r5.2 ) &&& 31)) - 1) r5.1  (fuU 2147483647 0) 0 r5.2) (fun r21 => ((sX7_layPartners_37  r5.1  20 (((1 : Int32) <<< ((fX7_count r5.2 ) &&& 31)) - 1) r21.2) ∧ bnd (fX7_layPartners_37  r5.1  20 (((1 : Int32) <<< ((fX7_count r5.2 ) &&& 31)) - 1) r21.2) (fun r62 => True)))))))
set_option maxRecDepth 20000 in
theorem ctX7_layPartners {l : Launch} {G : GM} {K : Nat → Option va_E} {h : List va_E} {m : Md} (hm : HM G K h m)  (hs : sX7_layPartners m ) : Ct l G mX7_layPartners 7 0 0 [.ref (gz G + 221)] h (fun v h1 => ∃ r, (fX7_layPartners m ) = r ∧ v = some (.int r.1) ∧ HM G K h1 r.2) := by
  show Tr l G mX7_layPartners 7 0 0 0 [(0, .ref (gz G + 221))] [] h _
  unfold sX7_layPartners at hs
  refine am_aload_n dX7_layPartners_0 0 rfl ?_
  obtain ⟨i1, hs⟩ := hs
  refine am_callV (As := []) (rest := []) dX7_layPartners_1 kMX7_124 rfl (hmc221 (m := m) hm) rfl rfl (Nat.le_of_ble_eq_true rfl) (d2 := 6) (by decide) (k2 := 0) (Nat.zero_le _) (u2 := 0) (Nat.zero_le _) (Nat.le_of_ble_eq_true rfl) (ctX7_countPairs (m := m) hm  i1) (fun v2 h3 q4 => ?_)
  obtain ⟨r5, e6, rfl, w7⟩ := q4
  have hs := bnd_p e6 hs
  refine am_istore_n dX7_layPartners_4 (by decide) (lv' := [(1, .int r5.1), (0, .ref (gz G + 221))]) rfl ?_
  refine am_iconst (v := 1) dX7_layPartners_5 (by decide) ?_
  refine am_aload_n dX7_layPartners_6 1 rfl ?_
  refine am_callV (As := []) (rest := [.int 1]) dX7_layPartners_7 kMX7_85 rfl (hmc221 (m := r5.2) w7) rfl rfl (Nat.le_of_ble_eq_true rfl) (d2 := 0) (by decide) (k2 := 0) (Nat.zero_le _) (u2 := 0) (Nat.zero_le _) (Nat.le_of_ble_eq_true rfl) (ctX7_count (m := r5.2) w7  ) (fun v8 h9 q10 => ?_)
  obtain ⟨rfl, rfl⟩ := q10
  refine am_ishl dX7_layPartners_10 ?_
  refine am_iconst (v := 1) dX7_layPartners_11 (by decide) ?_
  refine am_isub dX7_layPartners_12 ?_
  refine am_istore_n dX7_layPartners_13 (by decide) (lv' := [(2, .int (((1 : Int32) <<< ((fX7_count r5.2 ) &&& 31)) - 1)), (1, .int r5.1), (0, .ref (gz G + 221))]) rfl ?_
  refine am_iconst (v := 0) dX7_layPartners_14 (by decide) ?_
  refine am_istore_n dX7_layPartners_15 (by decide) (lv' := [(3, .int 0), (2, .int (((1 : Int32) <<< ((fX7_count r5.2 ) &&& 31)) - 1)), (1, .int r5.1), (0, .ref (gz G + 221))]) rfl ?_
  obtain ⟨i20, hs⟩ := hs
  refine wX7_layPartners_16  (((1 : Int32) <<< ((fX7_count r5.2 ) &&& 31)) - 1) r5.1  (fuU 2147483647 0) 0 r5.2 ivU_i i20 w7  (fun h23 r21 e22 w24  => ?_)
  have hs := bnd_p e22 hs
  refine am_lv (lv' := [(2, .int (((1 : Int32) <<< ((fX7_count r5.2 ) &&& 31)) - 1)), (1, .int r5.1), (0, .ref (gz G + 221))]) [1, 2, 3] rfl ?_
  obtain ⟨i61, hs⟩ := hs
  refine wX7_layPartners_37  r5.1  20 (((1 : Int32) <<< ((fX7_count r5.2 ) &&& 31)) - 1) r21.2  i61 w24  (fun h64 r62 e63 w65  => ?_)
  have hs := bnd_p e63 hs
  refine am_iload_n dX7_layPartners_163 1 rfl ?_
  exact am_ireturn dX7_layPartners_164 rfl rfl ⟨_, bnd_eq e6 (bnd_eq e22 (bnd_eq e63 (rfl))), rfl, w65⟩

theorem dX7_pairAt_0 : decode cX7_pairAt 0 = .ok (.iconst 0, 1) := by decide +kernel
theorem dX7_pairAt_1 : decode cX7_pairAt 1 = .ok (.istore_n 2, 1) := by decide +kernel
theorem dX7_pairAt_2 : decode cX7_pairAt 2 = .ok (.iconst 0, 1) := by decide +kernel
theorem dX7_pairAt_3 : decode cX7_pairAt 3 = .ok (.istore_n 3, 1) := by decide +kernel
theorem dX7_pairAt_4 : decode cX7_pairAt 4 = .ok (.iload_n 3, 1) := by decide +kernel
theorem dX7_pairAt_5 : decode cX7_pairAt 5 = .ok (.aload_n 0, 1) := by decide +kernel
theorem dX7_pairAt_6 : decode cX7_pairAt 6 = .ok (.invokevirtual 85, 3) := by decide +kernel
theorem dX7_pairAt_9 : decode cX7_pairAt 9 = .ok (.if_icmp .ge 32, 3) := by decide +kernel
theorem dX7_pairAt_12 : decode cX7_pairAt 12 = .ok (.aload_n 0, 1) := by decide +kernel
theorem dX7_pairAt_13 : decode cX7_pairAt 13 = .ok (.getfield 32, 3) := by decide +kernel
theorem dX7_pairAt_16 : decode cX7_pairAt 16 = .ok (.iload_n 3, 1) := by decide +kernel
theorem dX7_pairAt_17 : decode cX7_pairAt 17 = .ok (.iaload, 1) := by decide +kernel
theorem dX7_pairAt_18 : decode cX7_pairAt 18 = .ok (.iload_n 3, 1) := by decide +kernel
theorem dX7_pairAt_19 : decode cX7_pairAt 19 = .ok (.if_icmp .gt 6, 3) := by decide +kernel
theorem dX7_pairAt_22 : decode cX7_pairAt 22 = .ok (.goto 13, 3) := by decide +kernel
theorem dX7_pairAt_25 : decode cX7_pairAt 25 = .ok (.iload_n 2, 1) := by decide +kernel
theorem dX7_pairAt_26 : decode cX7_pairAt 26 = .ok (.iload_n 1, 1) := by decide +kernel
theorem dX7_pairAt_27 : decode cX7_pairAt 27 = .ok (.if_icmp .ne 5, 3) := by decide +kernel
theorem dX7_pairAt_30 : decode cX7_pairAt 30 = .ok (.iload_n 3, 1) := by decide +kernel
theorem dX7_pairAt_31 : decode cX7_pairAt 31 = .ok (.ireturn, 1) := by decide +kernel
theorem dX7_pairAt_32 : decode cX7_pairAt 32 = .ok (.iinc 2 1, 3) := by decide +kernel
theorem dX7_pairAt_35 : decode cX7_pairAt 35 = .ok (.iinc 3 1, 3) := by decide +kernel
theorem dX7_pairAt_38 : decode cX7_pairAt 38 = .ok (.goto (-34), 3) := by decide +kernel
theorem dX7_pairAt_41 : decode cX7_pairAt 41 = .ok (.iconst (-1), 1) := by decide +kernel
theorem dX7_pairAt_42 : decode cX7_pairAt 42 = .ok (.ireturn, 1) := by decide +kernel
def fX7_pairAt_4 (z1 : Int32)  (m : Md) : Nat → Int32 → Int32 → Int32
  | 0, _, _ => 0
  | fu + 1, x3, x2 => (if (fX7_count m ) ≤ x3 then (-1) else (if x3 < ((m.2.1 5) x3.toNatClampNeg) then (if x2 = z1 then x3 else (fX7_pairAt_4 z1  m fu (x3 + 1) (x2 + 1) )) else (fX7_pairAt_4 z1  m fu (x3 + 1) x2 )))
def sX7_pairAt_4 (z1 : Int32)  (m : Md) : Nat → Int32 → Int32 → Prop
  | 0, _, _ => True
  | fu + 1, x3, x2 => (((fX7_count m ) ≤ x3 → True) ∧ (¬ (fX7_count m ) ≤ x3 → (vp_in x3 14 ∧ ((x3 < ((m.2.1 5) x3.toNatClampNeg) → ((x2 = z1 → True) ∧ (¬ x2 = z1 → (sX7_pairAt_4 z1  m fu (x3 + 1) (x2 + 1) )))) ∧ (¬ x3 < ((m.2.1 5) x3.toNatClampNeg) → (sX7_pairAt_4 z1  m fu (x3 + 1) x2 ))))))
set_option maxRecDepth 20000 in
theorem wX7_pairAt_4 {l : Launch} {G : GM} {K : Nat → Option va_E} (z1 : Int32)   {h : List va_E} {m : Md} (hm : HM G K h m) : ∀ (fu : Nat) (x3 x2 : Int32) (iv : ivU (fX7_count m ) x3 fu) (hs : sX7_pairAt_4 z1  m fu x3 x2 ), Tr l G mX7_pairAt 1 0 0 4 [(3, .int x3), (2, .int x2), (0, .ref (gz G + 221)), (1, .int z1)] [] h (fun v h1 => v = some (.int (fX7_pairAt_4 z1  m fu x3 x2 )) ∧ h1 = h) := by
  intro fu
  induction fu with
  | zero => intro x3 x2 iv; intros; exact absurd iv ivU_0
  | succ fu ih =>
    intro x3 x2 iv hs    
    rw [sX7_pairAt_4] at hs
    refine am_iload_n dX7_pairAt_4 0 rfl ?_
    refine am_aload_n dX7_pairAt_5 2 rfl ?_
    refine am_callV (As := []) (rest := [.int x3]) dX7_pairAt_6 kMX7_85 rfl (hmc221 (m := m) hm) rfl rfl (Nat.le_of_ble_eq_true rfl) (d2 := 0) (by decide) (k2 := 0) (Nat.zero_le _) (u2 := 0) (Nat.zero_le _) (Nat.le_of_ble_eq_true rfl) (ctX7_count (m := m) hm  ) (fun v1 h2 q3 => ?_)
    obtain ⟨rfl, rfl⟩ := q3
    refine am_icmp_ge dX7_pairAt_9 (by decide : ((9 : Nat) : Int) + (32) = ((41 : Nat) : Int)) (fun c4 => ?_) (fun c4 => ?_)
    · have hs := hs.1 c4
      refine am_iconst (v := (-1)) dX7_pairAt_41 (by decide) ?_
      rw [show (fX7_pairAt_4 z1  m (fu + 1) x3 x2 ) = (-1) from ifp c4 (rfl)]
      exact am_ireturn dX7_pairAt_42 rfl rfl ⟨rfl, rfl⟩
    · have hs := hs.2 c4
      refine am_aload_n dX7_pairAt_12 2 rfl ?_
      refine am_get (v := .ref (gz G + 227)) dX7_pairAt_13 kGX7_32 (hmc221 (m := m) hm) rfl ?_
      refine am_iload_n dX7_pairAt_16 0 rfl ?_
      obtain ⟨i5, hs⟩ := hs
      refine am_iald (f := (m.2.1 5)) dX7_pairAt_17 (hmc227 (m := m) hm) i5 ?_
      refine am_iload_n dX7_pairAt_18 0 rfl ?_
      refine am_icmp_gt dX7_pairAt_19 (by decide : ((19 : Nat) : Int) + (6) = ((25 : Nat) : Int)) (fun c6 => ?_) (fun c6 => ?_)
      · have hs := hs.1 c6
        refine am_iload_n dX7_pairAt_25 1 rfl ?_
        refine am_iload_n dX7_pairAt_26 3 rfl ?_
        refine am_icmp_ne dX7_pairAt_27 (by decide : ((27 : Nat) : Int) + (5) = ((32 : Nat) : Int)) (fun c7 => ?_) (fun c7 => ?_)
        · have hs := hs.2 c7
          refine am_iinc (v := (x2 + 1)) dX7_pairAt_32 1 rfl rfl (by decide) (lv' := [(2, .int (x2 + 1)), (3, .int x3), (0, .ref (gz G + 221)), (1, .int z1)]) rfl ?_
          refine am_iinc (v := (x3 + 1)) dX7_pairAt_35 1 rfl rfl (by decide) (lv' := [(3, .int (x3 + 1)), (2, .int (x2 + 1)), (0, .ref (gz G + 221)), (1, .int z1)]) rfl ?_
          refine am_goto dX7_pairAt_38 (by decide : ((38 : Nat) : Int) + (-34) = ((4 : Nat) : Int)) ?_
          rw [show (fX7_pairAt_4 z1  m (fu + 1) x3 x2 ) = (fX7_pairAt_4 z1  m fu (x3 + 1) (x2 + 1) ) from ifn c4 (ifp c6 (ifn c7 (rfl)))]
          exact ih (x3 + 1) (x2 + 1) (ivU_s c4 iv) hs 
        · have hs := hs.1 c7
          refine am_iload_n dX7_pairAt_30 0 rfl ?_
          rw [show (fX7_pairAt_4 z1  m (fu + 1) x3 x2 ) = x3 from ifn c4 (ifp c6 (ifp c7 (rfl)))]
          exact am_ireturn dX7_pairAt_31 rfl rfl ⟨rfl, rfl⟩
      · have hs := hs.2 c6
        refine am_goto dX7_pairAt_22 (by decide : ((22 : Nat) : Int) + (13) = ((35 : Nat) : Int)) ?_
        refine am_iinc (v := (x3 + 1)) dX7_pairAt_35 0 rfl rfl (by decide) (lv' := [(3, .int (x3 + 1)), (2, .int x2), (0, .ref (gz G + 221)), (1, .int z1)]) rfl ?_
        refine am_goto dX7_pairAt_38 (by decide : ((38 : Nat) : Int) + (-34) = ((4 : Nat) : Int)) ?_
        rw [show (fX7_pairAt_4 z1  m (fu + 1) x3 x2 ) = (fX7_pairAt_4 z1  m fu (x3 + 1) x2 ) from ifn c4 (ifn c6 (rfl))]
        exact ih (x3 + 1) x2 (ivU_s c4 iv) hs 
def fX7_pairAt (m : Md) (z1 : Int32) : Int32 := (fX7_pairAt_4 z1  m (fuU (fX7_count m ) 0) 0 0 )
def sX7_pairAt (m : Md) (z1 : Int32) : Prop := (sX7_pairAt_4 z1  m (fuU (fX7_count m ) 0) 0 0 )
set_option maxRecDepth 20000 in
theorem ctX7_pairAt {l : Launch} {G : GM} {K : Nat → Option va_E} {h : List va_E} {m : Md} (hm : HM G K h m) (z1 : Int32) (hs : sX7_pairAt m z1) : Ct l G mX7_pairAt 1 0 0 [.ref (gz G + 221), .int z1] h (fun v h1 => v = some (.int (fX7_pairAt m z1)) ∧ h1 = h) := by
  show Tr l G mX7_pairAt 1 0 0 0 [(0, .ref (gz G + 221)), (1, .int z1)] [] h _
  unfold sX7_pairAt at hs
  refine am_iconst (v := 0) dX7_pairAt_0 (by decide) ?_
  refine am_istore_n dX7_pairAt_1 (by decide) (lv' := [(2, .int 0), (0, .ref (gz G + 221)), (1, .int z1)]) rfl ?_
  refine am_iconst (v := 0) dX7_pairAt_2 (by decide) ?_
  refine am_istore_n dX7_pairAt_3 (by decide) (lv' := [(3, .int 0), (2, .int 0), (0, .ref (gz G + 221)), (1, .int z1)]) rfl ?_
  rw [show (fX7_pairAt m z1) = (fX7_pairAt_4 z1  m (fuU (fX7_count m ) 0) 0 0 ) from rfl]
  exact wX7_pairAt_4 z1   hm (fuU (fX7_count m ) 0) 0 0 ivU_i hs

theorem dX7_sizeOfPair_0 : decode cX7_sizeOfPair 0 = .ok (.aload_n 0, 1) := by decide +kernel
theorem dX7_sizeOfPair_1 : decode cX7_sizeOfPair 1 = .ok (.iload_n 1, 1) := by decide +kernel
theorem dX7_sizeOfPair_2 : decode cX7_sizeOfPair 2 = .ok (.iconst 3, 1) := by decide +kernel
theorem dX7_sizeOfPair_3 : decode cX7_sizeOfPair 3 = .ok (.invokevirtual 60, 3) := by decide +kernel
theorem dX7_sizeOfPair_6 : decode cX7_sizeOfPair 6 = .ok (.istore_n 2, 1) := by decide +kernel
theorem dX7_sizeOfPair_7 : decode cX7_sizeOfPair 7 = .ok (.aload_n 0, 1) := by decide +kernel
theorem dX7_sizeOfPair_8 : decode cX7_sizeOfPair 8 = .ok (.aload_n 0, 1) := by decide +kernel
theorem dX7_sizeOfPair_9 : decode cX7_sizeOfPair 9 = .ok (.getfield 32, 3) := by decide +kernel
theorem dX7_sizeOfPair_12 : decode cX7_sizeOfPair 12 = .ok (.iload_n 1, 1) := by decide +kernel
theorem dX7_sizeOfPair_13 : decode cX7_sizeOfPair 13 = .ok (.iaload, 1) := by decide +kernel
theorem dX7_sizeOfPair_14 : decode cX7_sizeOfPair 14 = .ok (.iconst 3, 1) := by decide +kernel
theorem dX7_sizeOfPair_15 : decode cX7_sizeOfPair 15 = .ok (.invokevirtual 60, 3) := by decide +kernel
theorem dX7_sizeOfPair_18 : decode cX7_sizeOfPair 18 = .ok (.istore_n 3, 1) := by decide +kernel
theorem dX7_sizeOfPair_19 : decode cX7_sizeOfPair 19 = .ok (.aload_n 0, 1) := by decide +kernel
theorem dX7_sizeOfPair_20 : decode cX7_sizeOfPair 20 = .ok (.iload_n 2, 1) := by decide +kernel
theorem dX7_sizeOfPair_21 : decode cX7_sizeOfPair 21 = .ok (.iload_n 3, 1) := by decide +kernel
theorem dX7_sizeOfPair_22 : decode cX7_sizeOfPair 22 = .ok (.invokestatic 127, 3) := by decide +kernel
theorem dX7_sizeOfPair_25 : decode cX7_sizeOfPair 25 = .ok (.iload_n 2, 1) := by decide +kernel
theorem dX7_sizeOfPair_26 : decode cX7_sizeOfPair 26 = .ok (.iload_n 3, 1) := by decide +kernel
theorem dX7_sizeOfPair_27 : decode cX7_sizeOfPair 27 = .ok (.invokestatic 63, 3) := by decide +kernel
theorem dX7_sizeOfPair_30 : decode cX7_sizeOfPair 30 = .ok (.invokevirtual 95, 3) := by decide +kernel
theorem dX7_sizeOfPair_33 : decode cX7_sizeOfPair 33 = .ok (.ireturn, 1) := by decide +kernel
def fX7_sizeOfPair (m : Md) (z1 : Int32) : Int32 := (fX7_sizeFor m (imn (fX7_field m z1 3) (fX7_field m ((m.2.1 5) z1.toNatClampNeg) 3)) (imx (fX7_field m z1 3) (fX7_field m ((m.2.1 5) z1.toNatClampNeg) 3)))
def sX7_sizeOfPair (m : Md) (z1 : Int32) : Prop := ((sX7_field m z1 3) ∧ (vp_in z1 14 ∧ ((sX7_field m ((m.2.1 5) z1.toNatClampNeg) 3) ∧ ((sX7_sizeFor m (imn (fX7_field m z1 3) (fX7_field m ((m.2.1 5) z1.toNatClampNeg) 3)) (imx (fX7_field m z1 3) (fX7_field m ((m.2.1 5) z1.toNatClampNeg) 3))) ∧ True))))
set_option maxRecDepth 20000 in
theorem ctX7_sizeOfPair {l : Launch} {G : GM} {K : Nat → Option va_E} {h : List va_E} {m : Md} (hm : HM G K h m) (z1 : Int32) (hs : sX7_sizeOfPair m z1) : Ct l G mX7_sizeOfPair 2 0 0 [.ref (gz G + 221), .int z1] h (fun v h1 => v = some (.int (fX7_sizeOfPair m z1)) ∧ h1 = h) := by
  show Tr l G mX7_sizeOfPair 2 0 0 0 [(0, .ref (gz G + 221)), (1, .int z1)] [] h _
  unfold sX7_sizeOfPair at hs
  refine am_aload_n dX7_sizeOfPair_0 0 rfl ?_
  refine am_iload_n dX7_sizeOfPair_1 1 rfl ?_
  refine am_iconst (v := 3) dX7_sizeOfPair_2 (by decide) ?_
  obtain ⟨i1, hs⟩ := hs
  refine am_callV (As := [.int z1, .int 3]) (rest := []) dX7_sizeOfPair_3 kMX7_60 rfl (hmc221 (m := m) hm) rfl rfl (Nat.le_of_ble_eq_true rfl) (d2 := 1) (by decide) (k2 := 0) (Nat.zero_le _) (u2 := 0) (Nat.zero_le _) (Nat.le_of_ble_eq_true rfl) (ctX7_field (m := m) hm z1 3 i1) (fun v2 h3 q4 => ?_)
  obtain ⟨rfl, rfl⟩ := q4
  refine am_istore_n dX7_sizeOfPair_6 (by decide) (lv' := [(2, .int (fX7_field m z1 3)), (0, .ref (gz G + 221)), (1, .int z1)]) rfl ?_
  refine am_aload_n dX7_sizeOfPair_7 1 rfl ?_
  refine am_aload_n dX7_sizeOfPair_8 1 rfl ?_
  refine am_get (v := .ref (gz G + 227)) dX7_sizeOfPair_9 kGX7_32 (hmc221 (m := m) hm) rfl ?_
  refine am_iload_n dX7_sizeOfPair_12 2 rfl ?_
  obtain ⟨i5, hs⟩ := hs
  refine am_iald (f := (m.2.1 5)) dX7_sizeOfPair_13 (hmc227 (m := m) hm) i5 ?_
  refine am_iconst (v := 3) dX7_sizeOfPair_14 (by decide) ?_
  obtain ⟨i6, hs⟩ := hs
  refine am_callV (As := [.int ((m.2.1 5) z1.toNatClampNeg), .int 3]) (rest := []) dX7_sizeOfPair_15 kMX7_60 rfl (hmc221 (m := m) hm) rfl rfl (Nat.le_of_ble_eq_true rfl) (d2 := 1) (by decide) (k2 := 0) (Nat.zero_le _) (u2 := 0) (Nat.zero_le _) (Nat.le_of_ble_eq_true rfl) (ctX7_field (m := m) hm ((m.2.1 5) z1.toNatClampNeg) 3 i6) (fun v7 h8 q9 => ?_)
  obtain ⟨rfl, rfl⟩ := q9
  refine am_istore_n dX7_sizeOfPair_18 (by decide) (lv' := [(3, .int (fX7_field m ((m.2.1 5) z1.toNatClampNeg) 3)), (2, .int (fX7_field m z1 3)), (0, .ref (gz G + 221)), (1, .int z1)]) rfl ?_
  refine am_aload_n dX7_sizeOfPair_19 2 rfl ?_
  refine am_iload_n dX7_sizeOfPair_20 1 rfl ?_
  refine am_iload_n dX7_sizeOfPair_21 0 rfl ?_
  refine am_mmin dX7_sizeOfPair_22 kXX7_127 (Nat.le_of_ble_eq_true rfl) (by decide) ?_
  refine am_iload_n dX7_sizeOfPair_25 1 rfl ?_
  refine am_iload_n dX7_sizeOfPair_26 0 rfl ?_
  refine am_mmax dX7_sizeOfPair_27 kXX7_63 (Nat.le_of_ble_eq_true rfl) (by decide) ?_
  obtain ⟨i10, hs⟩ := hs
  refine am_callV (As := [.int (imn (fX7_field m z1 3) (fX7_field m ((m.2.1 5) z1.toNatClampNeg) 3)), .int (imx (fX7_field m z1 3) (fX7_field m ((m.2.1 5) z1.toNatClampNeg) 3))]) (rest := []) dX7_sizeOfPair_30 kMX7_95 rfl (hmc221 (m := m) hm) rfl rfl (Nat.le_of_ble_eq_true rfl) (d2 := 0) (by decide) (k2 := 0) (Nat.zero_le _) (u2 := 0) (Nat.zero_le _) (Nat.le_of_ble_eq_true rfl) (ctX7_sizeFor (m := m) hm (imn (fX7_field m z1 3) (fX7_field m ((m.2.1 5) z1.toNatClampNeg) 3)) (imx (fX7_field m z1 3) (fX7_field m ((m.2.1 5) z1.toNatClampNeg) 3)) i10) (fun v11 h12 q13 => ?_)
  obtain ⟨rfl, rfl⟩ := q13
  rw [show (fX7_sizeOfPair m z1) = (fX7_sizeFor m (imn (fX7_field m z1 3) (fX7_field m ((m.2.1 5) z1.toNatClampNeg) 3)) (imx (fX7_field m z1 3) (fX7_field m ((m.2.1 5) z1.toNatClampNeg) 3))) from rfl]
  exact am_ireturn dX7_sizeOfPair_33 rfl rfl ⟨rfl, rfl⟩

theorem dX7_groupKey_0 : decode cX7_groupKey 0 = .ok (.aload_n 0, 1) := by decide +kernel
theorem dX7_groupKey_1 : decode cX7_groupKey 1 = .ok (.iload_n 1, 1) := by decide +kernel
theorem dX7_groupKey_2 : decode cX7_groupKey 2 = .ok (.iconst 0, 1) := by decide +kernel
theorem dX7_groupKey_3 : decode cX7_groupKey 3 = .ok (.invokevirtual 60, 3) := by decide +kernel
theorem dX7_groupKey_6 : decode cX7_groupKey 6 = .ok (.iconst 3, 1) := by decide +kernel
theorem dX7_groupKey_7 : decode cX7_groupKey 7 = .ok (.imul, 1) := by decide +kernel
theorem dX7_groupKey_8 : decode cX7_groupKey 8 = .ok (.aload_n 0, 1) := by decide +kernel
theorem dX7_groupKey_9 : decode cX7_groupKey 9 = .ok (.iload_n 1, 1) := by decide +kernel
theorem dX7_groupKey_10 : decode cX7_groupKey 10 = .ok (.iconst 1, 1) := by decide +kernel
theorem dX7_groupKey_11 : decode cX7_groupKey 11 = .ok (.invokevirtual 60, 3) := by decide +kernel
theorem dX7_groupKey_14 : decode cX7_groupKey 14 = .ok (.iadd, 1) := by decide +kernel
theorem dX7_groupKey_15 : decode cX7_groupKey 15 = .ok (.bipush 6, 2) := by decide +kernel
theorem dX7_groupKey_17 : decode cX7_groupKey 17 = .ok (.imul, 1) := by decide +kernel
theorem dX7_groupKey_18 : decode cX7_groupKey 18 = .ok (.aload_n 0, 1) := by decide +kernel
theorem dX7_groupKey_19 : decode cX7_groupKey 19 = .ok (.iload_n 1, 1) := by decide +kernel
theorem dX7_groupKey_20 : decode cX7_groupKey 20 = .ok (.invokevirtual 130, 3) := by decide +kernel
theorem dX7_groupKey_23 : decode cX7_groupKey 23 = .ok (.iadd, 1) := by decide +kernel
theorem dX7_groupKey_24 : decode cX7_groupKey 24 = .ok (.ireturn, 1) := by decide +kernel
def fX7_groupKey (m : Md) (z1 : Int32) : Int32 := (((((fX7_field m z1 0) * 3) + (fX7_field m z1 1)) * 6) + (fX7_sizeOfPair m z1))
def sX7_groupKey (m : Md) (z1 : Int32) : Prop := ((sX7_field m z1 0) ∧ ((sX7_field m z1 1) ∧ ((sX7_sizeOfPair m z1) ∧ True)))
set_option maxRecDepth 20000 in
theorem ctX7_groupKey {l : Launch} {G : GM} {K : Nat → Option va_E} {h : List va_E} {m : Md} (hm : HM G K h m) (z1 : Int32) (hs : sX7_groupKey m z1) : Ct l G mX7_groupKey 3 0 0 [.ref (gz G + 221), .int z1] h (fun v h1 => v = some (.int (fX7_groupKey m z1)) ∧ h1 = h) := by
  show Tr l G mX7_groupKey 3 0 0 0 [(0, .ref (gz G + 221)), (1, .int z1)] [] h _
  unfold sX7_groupKey at hs
  refine am_aload_n dX7_groupKey_0 0 rfl ?_
  refine am_iload_n dX7_groupKey_1 1 rfl ?_
  refine am_iconst (v := 0) dX7_groupKey_2 (by decide) ?_
  obtain ⟨i1, hs⟩ := hs
  refine am_callV (As := [.int z1, .int 0]) (rest := []) dX7_groupKey_3 kMX7_60 rfl (hmc221 (m := m) hm) rfl rfl (Nat.le_of_ble_eq_true rfl) (d2 := 1) (by decide) (k2 := 0) (Nat.zero_le _) (u2 := 0) (Nat.zero_le _) (Nat.le_of_ble_eq_true rfl) (ctX7_field (m := m) hm z1 0 i1) (fun v2 h3 q4 => ?_)
  obtain ⟨rfl, rfl⟩ := q4
  refine am_iconst (v := 3) dX7_groupKey_6 (by decide) ?_
  refine am_imul dX7_groupKey_7 ?_
  refine am_aload_n dX7_groupKey_8 0 rfl ?_
  refine am_iload_n dX7_groupKey_9 1 rfl ?_
  refine am_iconst (v := 1) dX7_groupKey_10 (by decide) ?_
  obtain ⟨i5, hs⟩ := hs
  refine am_callV (As := [.int z1, .int 1]) (rest := [.int ((fX7_field m z1 0) * 3)]) dX7_groupKey_11 kMX7_60 rfl (hmc221 (m := m) hm) rfl rfl (Nat.le_of_ble_eq_true rfl) (d2 := 1) (by decide) (k2 := 0) (Nat.zero_le _) (u2 := 0) (Nat.zero_le _) (Nat.le_of_ble_eq_true rfl) (ctX7_field (m := m) hm z1 1 i5) (fun v6 h7 q8 => ?_)
  obtain ⟨rfl, rfl⟩ := q8
  refine am_iadd dX7_groupKey_14 ?_
  refine am_bipush (v := 6) dX7_groupKey_15 (by decide) ?_
  refine am_imul dX7_groupKey_17 ?_
  refine am_aload_n dX7_groupKey_18 0 rfl ?_
  refine am_iload_n dX7_groupKey_19 1 rfl ?_
  obtain ⟨i9, hs⟩ := hs
  refine am_callV (As := [.int z1]) (rest := [.int ((((fX7_field m z1 0) * 3) + (fX7_field m z1 1)) * 6)]) dX7_groupKey_20 kMX7_130 rfl (hmc221 (m := m) hm) rfl rfl (Nat.le_of_ble_eq_true rfl) (d2 := 2) (by decide) (k2 := 0) (Nat.zero_le _) (u2 := 0) (Nat.zero_le _) (Nat.le_of_ble_eq_true rfl) (ctX7_sizeOfPair (m := m) hm z1 i9) (fun v10 h11 q12 => ?_)
  obtain ⟨rfl, rfl⟩ := q12
  refine am_iadd dX7_groupKey_23 ?_
  rw [show (fX7_groupKey m z1) = (((((fX7_field m z1 0) * 3) + (fX7_field m z1 1)) * 6) + (fX7_sizeOfPair m z1)) from rfl]
  exact am_ireturn dX7_groupKey_24 rfl rfl ⟨rfl, rfl⟩

theorem dX7_isSized_0 : decode cX7_isSized 0 = .ok (.aload_n 0, 1) := by decide +kernel
theorem dX7_isSized_1 : decode cX7_isSized 1 = .ok (.getfield 32, 3) := by decide +kernel
theorem dX7_isSized_4 : decode cX7_isSized 4 = .ok (.iload_n 1, 1) := by decide +kernel
theorem dX7_isSized_5 : decode cX7_isSized 5 = .ok (.iaload, 1) := by decide +kernel
theorem dX7_isSized_6 : decode cX7_isSized 6 = .ok (.iload_n 1, 1) := by decide +kernel
theorem dX7_isSized_7 : decode cX7_isSized 7 = .ok (.if_icmp .le 16, 3) := by decide +kernel
theorem dX7_isSized_10 : decode cX7_isSized 10 = .ok (.aload_n 0, 1) := by decide +kernel
theorem dX7_isSized_11 : decode cX7_isSized 11 = .ok (.iload_n 1, 1) := by decide +kernel
theorem dX7_isSized_12 : decode cX7_isSized 12 = .ok (.invokevirtual 130, 3) := by decide +kernel
theorem dX7_isSized_15 : decode cX7_isSized 15 = .ok (.iconst (-1), 1) := by decide +kernel
theorem dX7_isSized_16 : decode cX7_isSized 16 = .ok (.if_icmp .eq 7, 3) := by decide +kernel
theorem dX7_isSized_19 : decode cX7_isSized 19 = .ok (.iconst 1, 1) := by decide +kernel
theorem dX7_isSized_20 : decode cX7_isSized 20 = .ok (.goto 4, 3) := by decide +kernel
theorem dX7_isSized_23 : decode cX7_isSized 23 = .ok (.iconst 0, 1) := by decide +kernel
theorem dX7_isSized_24 : decode cX7_isSized 24 = .ok (.ireturn, 1) := by decide +kernel
def fX7_isSized (m : Md) (z1 : Int32) : Int32 := (if ((m.2.1 5) z1.toNatClampNeg) ≤ z1 then 0 else (if (fX7_sizeOfPair m z1) = (-1) then 0 else 1))
def sX7_isSized (m : Md) (z1 : Int32) : Prop := (vp_in z1 14 ∧ ((((m.2.1 5) z1.toNatClampNeg) ≤ z1 → True) ∧ (¬ ((m.2.1 5) z1.toNatClampNeg) ≤ z1 → ((sX7_sizeOfPair m z1) ∧ (((fX7_sizeOfPair m z1) = (-1) → True) ∧ (¬ (fX7_sizeOfPair m z1) = (-1) → True))))))
set_option maxRecDepth 20000 in
theorem ctX7_isSized {l : Launch} {G : GM} {K : Nat → Option va_E} {h : List va_E} {m : Md} (hm : HM G K h m) (z1 : Int32) (hs : sX7_isSized m z1) : Ct l G mX7_isSized 3 0 0 [.ref (gz G + 221), .int z1] h (fun v h1 => v = some (.int (fX7_isSized m z1)) ∧ h1 = h) := by
  show Tr l G mX7_isSized 3 0 0 0 [(0, .ref (gz G + 221)), (1, .int z1)] [] h _
  unfold sX7_isSized at hs
  refine am_aload_n dX7_isSized_0 0 rfl ?_
  refine am_get (v := .ref (gz G + 227)) dX7_isSized_1 kGX7_32 (hmc221 (m := m) hm) rfl ?_
  refine am_iload_n dX7_isSized_4 1 rfl ?_
  obtain ⟨i1, hs⟩ := hs
  refine am_iald (f := (m.2.1 5)) dX7_isSized_5 (hmc227 (m := m) hm) i1 ?_
  refine am_iload_n dX7_isSized_6 1 rfl ?_
  refine am_icmp_le dX7_isSized_7 (by decide : ((7 : Nat) : Int) + (16) = ((23 : Nat) : Int)) (fun c2 => ?_) (fun c2 => ?_)
  · have hs := hs.1 c2
    refine am_iconst (v := 0) dX7_isSized_23 (by decide) ?_
    rw [show (fX7_isSized m z1) = 0 from ifp c2 (rfl)]
    exact am_ireturn dX7_isSized_24 rfl rfl ⟨rfl, rfl⟩
  · have hs := hs.2 c2
    refine am_aload_n dX7_isSized_10 0 rfl ?_
    refine am_iload_n dX7_isSized_11 1 rfl ?_
    obtain ⟨i3, hs⟩ := hs
    refine am_callV (As := [.int z1]) (rest := []) dX7_isSized_12 kMX7_130 rfl (hmc221 (m := m) hm) rfl rfl (Nat.le_of_ble_eq_true rfl) (d2 := 2) (by decide) (k2 := 0) (Nat.zero_le _) (u2 := 0) (Nat.zero_le _) (Nat.le_of_ble_eq_true rfl) (ctX7_sizeOfPair (m := m) hm z1 i3) (fun v4 h5 q6 => ?_)
    obtain ⟨rfl, rfl⟩ := q6
    refine am_iconst (v := (-1)) dX7_isSized_15 (by decide) ?_
    refine am_icmp_eq dX7_isSized_16 (by decide : ((16 : Nat) : Int) + (7) = ((23 : Nat) : Int)) (fun c7 => ?_) (fun c7 => ?_)
    · have hs := hs.1 c7
      refine am_iconst (v := 0) dX7_isSized_23 (by decide) ?_
      rw [show (fX7_isSized m z1) = 0 from ifn c2 (ifp c7 (rfl))]
      exact am_ireturn dX7_isSized_24 rfl rfl ⟨rfl, rfl⟩
    · have hs := hs.2 c7
      refine am_iconst (v := 1) dX7_isSized_19 (by decide) ?_
      refine am_goto dX7_isSized_20 (by decide : ((20 : Nat) : Int) + (4) = ((24 : Nat) : Int)) ?_
      rw [show (fX7_isSized m z1) = 1 from ifn c2 (ifn c7 (rfl))]
      exact am_ireturn dX7_isSized_24 rfl rfl ⟨rfl, rfl⟩

theorem dX7_inGroup_0 : decode cX7_inGroup 0 = .ok (.iconst 0, 1) := by decide +kernel
theorem dX7_inGroup_1 : decode cX7_inGroup 1 = .ok (.istore_n 3, 1) := by decide +kernel
theorem dX7_inGroup_2 : decode cX7_inGroup 2 = .ok (.iconst 0, 1) := by decide +kernel
theorem dX7_inGroup_3 : decode cX7_inGroup 3 = .ok (.istore 4, 2) := by decide +kernel
theorem dX7_inGroup_5 : decode cX7_inGroup 5 = .ok (.iload 4, 2) := by decide +kernel
theorem dX7_inGroup_7 : decode cX7_inGroup 7 = .ok (.aload_n 0, 1) := by decide +kernel
theorem dX7_inGroup_8 : decode cX7_inGroup 8 = .ok (.invokevirtual 85, 3) := by decide +kernel
theorem dX7_inGroup_11 : decode cX7_inGroup 11 = .ok (.if_icmp .ge 50, 3) := by decide +kernel
theorem dX7_inGroup_14 : decode cX7_inGroup 14 = .ok (.iload_n 2, 1) := by decide +kernel
theorem dX7_inGroup_15 : decode cX7_inGroup 15 = .ok (.ifCond .ne 9, 3) := by decide +kernel
theorem dX7_inGroup_18 : decode cX7_inGroup 18 = .ok (.iload 4, 2) := by decide +kernel
theorem dX7_inGroup_20 : decode cX7_inGroup 20 = .ok (.iload_n 1, 1) := by decide +kernel
theorem dX7_inGroup_21 : decode cX7_inGroup 21 = .ok (.if_icmp .gt 40, 3) := by decide +kernel
theorem dX7_inGroup_24 : decode cX7_inGroup 24 = .ok (.iload_n 3, 1) := by decide +kernel
theorem dX7_inGroup_25 : decode cX7_inGroup 25 = .ok (.aload_n 0, 1) := by decide +kernel
theorem dX7_inGroup_26 : decode cX7_inGroup 26 = .ok (.iload 4, 2) := by decide +kernel
theorem dX7_inGroup_28 : decode cX7_inGroup 28 = .ok (.invokevirtual 133, 3) := by decide +kernel
theorem dX7_inGroup_31 : decode cX7_inGroup 31 = .ok (.ifCond .eq 21, 3) := by decide +kernel
theorem dX7_inGroup_34 : decode cX7_inGroup 34 = .ok (.aload_n 0, 1) := by decide +kernel
theorem dX7_inGroup_35 : decode cX7_inGroup 35 = .ok (.iload 4, 2) := by decide +kernel
theorem dX7_inGroup_37 : decode cX7_inGroup 37 = .ok (.invokevirtual 137, 3) := by decide +kernel
theorem dX7_inGroup_40 : decode cX7_inGroup 40 = .ok (.aload_n 0, 1) := by decide +kernel
theorem dX7_inGroup_41 : decode cX7_inGroup 41 = .ok (.iload_n 1, 1) := by decide +kernel
theorem dX7_inGroup_42 : decode cX7_inGroup 42 = .ok (.invokevirtual 137, 3) := by decide +kernel
theorem dX7_inGroup_45 : decode cX7_inGroup 45 = .ok (.if_icmp .ne 7, 3) := by decide +kernel
theorem dX7_inGroup_48 : decode cX7_inGroup 48 = .ok (.iconst 1, 1) := by decide +kernel
theorem dX7_inGroup_49 : decode cX7_inGroup 49 = .ok (.goto 4, 3) := by decide +kernel
theorem dX7_inGroup_52 : decode cX7_inGroup 52 = .ok (.iconst 0, 1) := by decide +kernel
theorem dX7_inGroup_53 : decode cX7_inGroup 53 = .ok (.iadd, 1) := by decide +kernel
theorem dX7_inGroup_54 : decode cX7_inGroup 54 = .ok (.istore_n 3, 1) := by decide +kernel
theorem dX7_inGroup_55 : decode cX7_inGroup 55 = .ok (.iinc 4 1, 3) := by decide +kernel
theorem dX7_inGroup_58 : decode cX7_inGroup 58 = .ok (.goto (-53), 3) := by decide +kernel
theorem dX7_inGroup_61 : decode cX7_inGroup 61 = .ok (.iload_n 3, 1) := by decide +kernel
theorem dX7_inGroup_62 : decode cX7_inGroup 62 = .ok (.ireturn, 1) := by decide +kernel
def fX7_inGroup_5 (z1 : Int32) (z2 : Int32)  (m : Md) : Nat → Int32 → Int32 → Int32 × Int32
  | 0, x4, x3 => (x4, x3)
  | fu + 1, x4, x3 => (if (fX7_count m ) ≤ x4 then (x4, x3) else (if z2 = 0 then (if z1 < x4 then (x4, x3) else (if (fX7_isSized m x4) = 0 then (fX7_inGroup_5 z1 z2  m fu (x4 + 1) (x3 + 0) ) else (if (fX7_groupKey m x4) = (fX7_groupKey m z1) then (fX7_inGroup_5 z1 z2  m fu (x4 + 1) (x3 + 1) ) else (fX7_inGroup_5 z1 z2  m fu (x4 + 1) (x3 + 0) )))) else (if (fX7_isSized m x4) = 0 then (fX7_inGroup_5 z1 z2  m fu (x4 + 1) (x3 + 0) ) else (if (fX7_groupKey m x4) = (fX7_groupKey m z1) then (fX7_inGroup_5 z1 z2  m fu (x4 + 1) (x3 + 1) ) else (fX7_inGroup_5 z1 z2  m fu (x4 + 1) (x3 + 0) )))))
def sX7_inGroup_5 (z1 : Int32) (z2 : Int32)  (m : Md) : Nat → Int32 → Int32 → Prop
  | 0, _, _ => True
  | fu + 1, x4, x3 => (((fX7_count m ) ≤ x4 → True) ∧ (¬ (fX7_count m ) ≤ x4 → ((z2 = 0 → ((z1 < x4 → True) ∧ (¬ z1 < x4 → ((sX7_isSized m x4) ∧ (((fX7_isSized m x4) = 0 → (sX7_inGroup_5 z1 z2  m fu (x4 + 1) (x3 + 0) )) ∧ (¬ (fX7_isSized m x4) = 0 → ((sX7_groupKey m x4) ∧ ((sX7_groupKey m z1) ∧ (((fX7_groupKey m x4) = (fX7_groupKey m z1) → (sX7_inGroup_5 z1 z2  m fu (x4 + 1) (x3 + 1) )) ∧ (¬ (fX7_groupKey m x4) = (fX7_groupKey m z1) → (sX7_inGroup_5 z1 z2  m fu (x4 + 1) (x3 + 0) ))))))))))) ∧ (¬ z2 = 0 → ((sX7_isSized m x4) ∧ (((fX7_isSized m x4) = 0 → (sX7_inGroup_5 z1 z2  m fu (x4 + 1) (x3 + 0) )) ∧ (¬ (fX7_isSized m x4) = 0 → ((sX7_groupKey m x4) ∧ ((sX7_groupKey m z1) ∧ (((fX7_groupKey m x4) = (fX7_groupKey m z1) → (sX7_inGroup_5 z1 z2  m fu (x4 + 1) (x3 + 1) )) ∧ (¬ (fX7_groupKey m x4) = (fX7_groupKey m z1) → (sX7_inGroup_5 z1 z2  m fu (x4 + 1) (x3 + 0) ))))))))))))
set_option maxRecDepth 20000 in
theorem wX7_inGroup_5 {l : Launch} {G : GM} {K : Nat → Option va_E} (z1 : Int32) (z2 : Int32)   {h : List va_E} {m : Md} (hm : HM G K h m) {Q : Option Value → List va_E → Prop} : ∀ (fu : Nat) (x4 x3 : Int32) (iv : ivU (fX7_count m ) x4 fu) (hs : sX7_inGroup_5 z1 z2  m fu x4 x3 ) (kx : ∀ (r : Int32 × Int32), (fX7_inGroup_5 z1 z2  m fu x4 x3 ) = r → Tr l G mX7_inGroup 4 0 0 61 [(4, .int r.1), (3, .int r.2), (0, .ref (gz G + 221)), (1, .int z1), (2, .int z2)] [] h Q), Tr l G mX7_inGroup 4 0 0 5 [(4, .int x4), (3, .int x3), (0, .ref (gz G + 221)), (1, .int z1), (2, .int z2)] [] h Q := by
  intro fu
  induction fu with
  | zero => intro x4 x3 iv; intros; exact absurd iv ivU_0
  | succ fu ih =>
    intro x4 x3 iv hs    kx
    rw [sX7_inGroup_5] at hs
    refine am_iload dX7_inGroup_5 0 rfl ?_
    refine am_aload_n dX7_inGroup_7 2 rfl ?_
    refine am_callV (As := []) (rest := [.int x4]) dX7_inGroup_8 kMX7_85 rfl (hmc221 (m := m) hm) rfl rfl (Nat.le_of_ble_eq_true rfl) (d2 := 0) (by decide) (k2 := 0) (Nat.zero_le _) (u2 := 0) (Nat.zero_le _) (Nat.le_of_ble_eq_true rfl) (ctX7_count (m := m) hm  ) (fun v1 h2 q3 => ?_)
    obtain ⟨rfl, rfl⟩ := q3
    refine am_icmp_ge dX7_inGroup_11 (by decide : ((11 : Nat) : Int) + (50) = ((61 : Nat) : Int)) (fun c4 => ?_) (fun c4 => ?_)
    · have hs := hs.1 c4
      exact kx _ (ifp c4 (rfl))
    · have hs := hs.2 c4
      refine am_iload_n dX7_inGroup_14 4 rfl ?_
      refine am_if_ne dX7_inGroup_15 (by decide : ((15 : Nat) : Int) + (9) = ((24 : Nat) : Int)) (fun c5 => ?_) (fun c5 => ?_)
      · have hs := hs.2 c5
        refine am_iload_n dX7_inGroup_24 1 rfl ?_
        refine am_aload_n dX7_inGroup_25 2 rfl ?_
        refine am_iload dX7_inGroup_26 0 rfl ?_
        obtain ⟨i6, hs⟩ := hs
        refine am_callV (As := [.int x4]) (rest := [.int x3]) dX7_inGroup_28 kMX7_133 rfl (hmc221 (m := m) hm) rfl rfl (Nat.le_of_ble_eq_true rfl) (d2 := 3) (by decide) (k2 := 0) (Nat.zero_le _) (u2 := 0) (Nat.zero_le _) (Nat.le_of_ble_eq_true rfl) (ctX7_isSized (m := m) hm x4 i6) (fun v7 h8 q9 => ?_)
        obtain ⟨rfl, rfl⟩ := q9
        refine am_if_eq dX7_inGroup_31 (by decide : ((31 : Nat) : Int) + (21) = ((52 : Nat) : Int)) (fun c10 => ?_) (fun c10 => ?_)
        · have hs := hs.1 c10
          refine am_iconst (v := 0) dX7_inGroup_52 (by decide) ?_
          refine am_iadd dX7_inGroup_53 ?_
          refine am_istore_n dX7_inGroup_54 (by decide) (lv' := [(3, .int (x3 + 0)), (4, .int x4), (0, .ref (gz G + 221)), (1, .int z1), (2, .int z2)]) rfl ?_
          refine am_iinc (v := (x4 + 1)) dX7_inGroup_55 1 rfl rfl (by decide) (lv' := [(4, .int (x4 + 1)), (3, .int (x3 + 0)), (0, .ref (gz G + 221)), (1, .int z1), (2, .int z2)]) rfl ?_
          refine am_goto dX7_inGroup_58 (by decide : ((58 : Nat) : Int) + (-53) = ((5 : Nat) : Int)) ?_
          exact ih (x4 + 1) (x3 + 0) (ivU_s c4 iv) hs (fun r e => kx r (Eq.trans (ifn c4 (ifn c5 (ifp c10 (rfl)))) e))
        · have hs := hs.2 c10
          refine am_aload_n dX7_inGroup_34 2 rfl ?_
          refine am_iload dX7_inGroup_35 0 rfl ?_
          obtain ⟨i11, hs⟩ := hs
          refine am_callV (As := [.int x4]) (rest := [.int x3]) dX7_inGroup_37 kMX7_137 rfl (hmc221 (m := m) hm) rfl rfl (Nat.le_of_ble_eq_true rfl) (d2 := 3) (by decide) (k2 := 0) (Nat.zero_le _) (u2 := 0) (Nat.zero_le _) (Nat.le_of_ble_eq_true rfl) (ctX7_groupKey (m := m) hm x4 i11) (fun v12 h13 q14 => ?_)
          obtain ⟨rfl, rfl⟩ := q14
          refine am_aload_n dX7_inGroup_40 2 rfl ?_
          refine am_iload_n dX7_inGroup_41 3 rfl ?_
          obtain ⟨i15, hs⟩ := hs
          refine am_callV (As := [.int z1]) (rest := [.int (fX7_groupKey m x4), .int x3]) dX7_inGroup_42 kMX7_137 rfl (hmc221 (m := m) hm) rfl rfl (Nat.le_of_ble_eq_true rfl) (d2 := 3) (by decide) (k2 := 0) (Nat.zero_le _) (u2 := 0) (Nat.zero_le _) (Nat.le_of_ble_eq_true rfl) (ctX7_groupKey (m := m) hm z1 i15) (fun v16 h17 q18 => ?_)
          obtain ⟨rfl, rfl⟩ := q18
          refine am_icmp_ne dX7_inGroup_45 (by decide : ((45 : Nat) : Int) + (7) = ((52 : Nat) : Int)) (fun c19 => ?_) (fun c19 => ?_)
          · have hs := hs.2 c19
            refine am_iconst (v := 0) dX7_inGroup_52 (by decide) ?_
            refine am_iadd dX7_inGroup_53 ?_
            refine am_istore_n dX7_inGroup_54 (by decide) (lv' := [(3, .int (x3 + 0)), (4, .int x4), (0, .ref (gz G + 221)), (1, .int z1), (2, .int z2)]) rfl ?_
            refine am_iinc (v := (x4 + 1)) dX7_inGroup_55 1 rfl rfl (by decide) (lv' := [(4, .int (x4 + 1)), (3, .int (x3 + 0)), (0, .ref (gz G + 221)), (1, .int z1), (2, .int z2)]) rfl ?_
            refine am_goto dX7_inGroup_58 (by decide : ((58 : Nat) : Int) + (-53) = ((5 : Nat) : Int)) ?_
            exact ih (x4 + 1) (x3 + 0) (ivU_s c4 iv) hs (fun r e => kx r (Eq.trans (ifn c4 (ifn c5 (ifn c10 (ifn c19 (rfl))))) e))
          · have hs := hs.1 c19
            refine am_iconst (v := 1) dX7_inGroup_48 (by decide) ?_
            refine am_goto dX7_inGroup_49 (by decide : ((49 : Nat) : Int) + (4) = ((53 : Nat) : Int)) ?_
            refine am_iadd dX7_inGroup_53 ?_
            refine am_istore_n dX7_inGroup_54 (by decide) (lv' := [(3, .int (x3 + 1)), (4, .int x4), (0, .ref (gz G + 221)), (1, .int z1), (2, .int z2)]) rfl ?_
            refine am_iinc (v := (x4 + 1)) dX7_inGroup_55 1 rfl rfl (by decide) (lv' := [(4, .int (x4 + 1)), (3, .int (x3 + 1)), (0, .ref (gz G + 221)), (1, .int z1), (2, .int z2)]) rfl ?_
            refine am_goto dX7_inGroup_58 (by decide : ((58 : Nat) : Int) + (-53) = ((5 : Nat) : Int)) ?_
            exact ih (x4 + 1) (x3 + 1) (ivU_s c4 iv) hs (fun r e => kx r (Eq.trans (ifn c4 (ifn c5 (ifn c10 (ifp c19 (rfl))))) e))
      · have hs := hs.1 c5
        refine am_iload dX7_inGroup_18 0 rfl ?_
        refine am_iload_n dX7_inGroup_20 3 rfl ?_
        refine am_icmp_gt dX7_inGroup_21 (by decide : ((21 : Nat) : Int) + (40) = ((61 : Nat) : Int)) (fun c20 => ?_) (fun c20 => ?_)
        · have hs := hs.1 c20
          exact kx _ (ifn c4 (ifp c5 (ifp c20 (rfl))))
        · have hs := hs.2 c20
          refine am_iload_n dX7_inGroup_24 1 rfl ?_
          refine am_aload_n dX7_inGroup_25 2 rfl ?_
          refine am_iload dX7_inGroup_26 0 rfl ?_
          obtain ⟨i21, hs⟩ := hs
          refine am_callV (As := [.int x4]) (rest := [.int x3]) dX7_inGroup_28 kMX7_133 rfl (hmc221 (m := m) hm) rfl rfl (Nat.le_of_ble_eq_true rfl) (d2 := 3) (by decide) (k2 := 0) (Nat.zero_le _) (u2 := 0) (Nat.zero_le _) (Nat.le_of_ble_eq_true rfl) (ctX7_isSized (m := m) hm x4 i21) (fun v22 h23 q24 => ?_)
          obtain ⟨rfl, rfl⟩ := q24
          refine am_if_eq dX7_inGroup_31 (by decide : ((31 : Nat) : Int) + (21) = ((52 : Nat) : Int)) (fun c25 => ?_) (fun c25 => ?_)
          · have hs := hs.1 c25
            refine am_iconst (v := 0) dX7_inGroup_52 (by decide) ?_
            refine am_iadd dX7_inGroup_53 ?_
            refine am_istore_n dX7_inGroup_54 (by decide) (lv' := [(3, .int (x3 + 0)), (4, .int x4), (0, .ref (gz G + 221)), (1, .int z1), (2, .int z2)]) rfl ?_
            refine am_iinc (v := (x4 + 1)) dX7_inGroup_55 1 rfl rfl (by decide) (lv' := [(4, .int (x4 + 1)), (3, .int (x3 + 0)), (0, .ref (gz G + 221)), (1, .int z1), (2, .int z2)]) rfl ?_
            refine am_goto dX7_inGroup_58 (by decide : ((58 : Nat) : Int) + (-53) = ((5 : Nat) : Int)) ?_
            exact ih (x4 + 1) (x3 + 0) (ivU_s c4 iv) hs (fun r e => kx r (Eq.trans (ifn c4 (ifp c5 (ifn c20 (ifp c25 (rfl))))) e))
          · have hs := hs.2 c25
            refine am_aload_n dX7_inGroup_34 2 rfl ?_
            refine am_iload dX7_inGroup_35 0 rfl ?_
            obtain ⟨i26, hs⟩ := hs
            refine am_callV (As := [.int x4]) (rest := [.int x3]) dX7_inGroup_37 kMX7_137 rfl (hmc221 (m := m) hm) rfl rfl (Nat.le_of_ble_eq_true rfl) (d2 := 3) (by decide) (k2 := 0) (Nat.zero_le _) (u2 := 0) (Nat.zero_le _) (Nat.le_of_ble_eq_true rfl) (ctX7_groupKey (m := m) hm x4 i26) (fun v27 h28 q29 => ?_)
            obtain ⟨rfl, rfl⟩ := q29
            refine am_aload_n dX7_inGroup_40 2 rfl ?_
            refine am_iload_n dX7_inGroup_41 3 rfl ?_
            obtain ⟨i30, hs⟩ := hs
            refine am_callV (As := [.int z1]) (rest := [.int (fX7_groupKey m x4), .int x3]) dX7_inGroup_42 kMX7_137 rfl (hmc221 (m := m) hm) rfl rfl (Nat.le_of_ble_eq_true rfl) (d2 := 3) (by decide) (k2 := 0) (Nat.zero_le _) (u2 := 0) (Nat.zero_le _) (Nat.le_of_ble_eq_true rfl) (ctX7_groupKey (m := m) hm z1 i30) (fun v31 h32 q33 => ?_)
            obtain ⟨rfl, rfl⟩ := q33
            refine am_icmp_ne dX7_inGroup_45 (by decide : ((45 : Nat) : Int) + (7) = ((52 : Nat) : Int)) (fun c34 => ?_) (fun c34 => ?_)
            · have hs := hs.2 c34
              refine am_iconst (v := 0) dX7_inGroup_52 (by decide) ?_
              refine am_iadd dX7_inGroup_53 ?_
              refine am_istore_n dX7_inGroup_54 (by decide) (lv' := [(3, .int (x3 + 0)), (4, .int x4), (0, .ref (gz G + 221)), (1, .int z1), (2, .int z2)]) rfl ?_
              refine am_iinc (v := (x4 + 1)) dX7_inGroup_55 1 rfl rfl (by decide) (lv' := [(4, .int (x4 + 1)), (3, .int (x3 + 0)), (0, .ref (gz G + 221)), (1, .int z1), (2, .int z2)]) rfl ?_
              refine am_goto dX7_inGroup_58 (by decide : ((58 : Nat) : Int) + (-53) = ((5 : Nat) : Int)) ?_
              exact ih (x4 + 1) (x3 + 0) (ivU_s c4 iv) hs (fun r e => kx r (Eq.trans (ifn c4 (ifp c5 (ifn c20 (ifn c25 (ifn c34 (rfl)))))) e))
            · have hs := hs.1 c34
              refine am_iconst (v := 1) dX7_inGroup_48 (by decide) ?_
              refine am_goto dX7_inGroup_49 (by decide : ((49 : Nat) : Int) + (4) = ((53 : Nat) : Int)) ?_
              refine am_iadd dX7_inGroup_53 ?_
              refine am_istore_n dX7_inGroup_54 (by decide) (lv' := [(3, .int (x3 + 1)), (4, .int x4), (0, .ref (gz G + 221)), (1, .int z1), (2, .int z2)]) rfl ?_
              refine am_iinc (v := (x4 + 1)) dX7_inGroup_55 1 rfl rfl (by decide) (lv' := [(4, .int (x4 + 1)), (3, .int (x3 + 1)), (0, .ref (gz G + 221)), (1, .int z1), (2, .int z2)]) rfl ?_
              refine am_goto dX7_inGroup_58 (by decide : ((58 : Nat) : Int) + (-53) = ((5 : Nat) : Int)) ?_
              exact ih (x4 + 1) (x3 + 1) (ivU_s c4 iv) hs (fun r e => kx r (Eq.trans (ifn c4 (ifp c5 (ifn c20 (ifn c25 (ifp c34 (rfl)))))) e))
def fX7_inGroup (m : Md) (z1 : Int32) (z2 : Int32) : Int32 := (bnd (fX7_inGroup_5 z1 z2  m (fuU (fX7_count m ) 0) 0 0 ) (fun r36 => r36.2))
def sX7_inGroup (m : Md) (z1 : Int32) (z2 : Int32) : Prop := ((sX7_inGroup_5 z1 z2  m (fuU (fX7_count m ) 0) 0 0 ) ∧ bnd (fX7_inGroup_5 z1 z2  m (fuU (fX7_count m ) 0) 0 0 ) (fun r36 => True))
set_option maxRecDepth 20000 in
theorem ctX7_inGroup {l : Launch} {G : GM} {K : Nat → Option va_E} {h : List va_E} {m : Md} (hm : HM G K h m) (z1 : Int32) (z2 : Int32) (hs : sX7_inGroup m z1 z2) : Ct l G mX7_inGroup 4 0 0 [.ref (gz G + 221), .int z1, .int z2] h (fun v h1 => v = some (.int (fX7_inGroup m z1 z2)) ∧ h1 = h) := by
  show Tr l G mX7_inGroup 4 0 0 0 [(0, .ref (gz G + 221)), (1, .int z1), (2, .int z2)] [] h _
  unfold sX7_inGroup at hs
  refine am_iconst (v := 0) dX7_inGroup_0 (by decide) ?_
  refine am_istore_n dX7_inGroup_1 (by decide) (lv' := [(3, .int 0), (0, .ref (gz G + 221)), (1, .int z1), (2, .int z2)]) rfl ?_
  refine am_iconst (v := 0) dX7_inGroup_2 (by decide) ?_
  refine am_istore dX7_inGroup_3 (by decide) (lv' := [(4, .int 0), (3, .int 0), (0, .ref (gz G + 221)), (1, .int z1), (2, .int z2)]) rfl ?_
  obtain ⟨i35, hs⟩ := hs
  refine wX7_inGroup_5 z1 z2   hm (fuU (fX7_count m ) 0) 0 0 ivU_i i35 (fun r36 e37 => ?_)
  have hs := bnd_p e37 hs
  refine am_iload_n dX7_inGroup_61 1 rfl ?_
  rw [show (fX7_inGroup m z1 z2) = r36.2 from bnd_eq e37 (rfl)]
  exact am_ireturn dX7_inGroup_62 rfl rfl ⟨rfl, rfl⟩

theorem dX7_packedSet_0 : decode cX7_packedSet 0 = .ok (.aload_n 0, 1) := by decide +kernel
theorem dX7_packedSet_1 : decode cX7_packedSet 1 = .ok (.invokevirtual 140, 3) := by decide +kernel
theorem dX7_packedSet_4 : decode cX7_packedSet 4 = .ok (.pop, 1) := by decide +kernel
theorem dX7_packedSet_5 : decode cX7_packedSet 5 = .ok (.iconst 0, 1) := by decide +kernel
theorem dX7_packedSet_6 : decode cX7_packedSet 6 = .ok (.istore_n 1, 1) := by decide +kernel
theorem dX7_packedSet_7 : decode cX7_packedSet 7 = .ok (.iconst 0, 1) := by decide +kernel
theorem dX7_packedSet_8 : decode cX7_packedSet 8 = .ok (.istore_n 2, 1) := by decide +kernel
theorem dX7_packedSet_9 : decode cX7_packedSet 9 = .ok (.iconst 0, 1) := by decide +kernel
theorem dX7_packedSet_10 : decode cX7_packedSet 10 = .ok (.istore_n 3, 1) := by decide +kernel
theorem dX7_packedSet_11 : decode cX7_packedSet 11 = .ok (.iload_n 3, 1) := by decide +kernel
theorem dX7_packedSet_12 : decode cX7_packedSet 12 = .ok (.aload_n 0, 1) := by decide +kernel
theorem dX7_packedSet_13 : decode cX7_packedSet 13 = .ok (.invokevirtual 85, 3) := by decide +kernel
theorem dX7_packedSet_16 : decode cX7_packedSet 16 = .ok (.if_icmp .ge 67, 3) := by decide +kernel
theorem dX7_packedSet_19 : decode cX7_packedSet 19 = .ok (.aload_n 0, 1) := by decide +kernel
theorem dX7_packedSet_20 : decode cX7_packedSet 20 = .ok (.iload_n 3, 1) := by decide +kernel
theorem dX7_packedSet_21 : decode cX7_packedSet 21 = .ok (.invokevirtual 133, 3) := by decide +kernel
theorem dX7_packedSet_24 : decode cX7_packedSet 24 = .ok (.ifCond .eq 53, 3) := by decide +kernel
theorem dX7_packedSet_27 : decode cX7_packedSet 27 = .ok (.aload_n 0, 1) := by decide +kernel
theorem dX7_packedSet_28 : decode cX7_packedSet 28 = .ok (.iload_n 3, 1) := by decide +kernel
theorem dX7_packedSet_29 : decode cX7_packedSet 29 = .ok (.iconst 0, 1) := by decide +kernel
theorem dX7_packedSet_30 : decode cX7_packedSet 30 = .ok (.invokevirtual 143, 3) := by decide +kernel
theorem dX7_packedSet_33 : decode cX7_packedSet 33 = .ok (.aload_n 0, 1) := by decide +kernel
theorem dX7_packedSet_34 : decode cX7_packedSet 34 = .ok (.iload_n 3, 1) := by decide +kernel
theorem dX7_packedSet_35 : decode cX7_packedSet 35 = .ok (.iconst 1, 1) := by decide +kernel
theorem dX7_packedSet_36 : decode cX7_packedSet 36 = .ok (.invokevirtual 143, 3) := by decide +kernel
theorem dX7_packedSet_39 : decode cX7_packedSet 39 = .ok (.aload_n 0, 1) := by decide +kernel
theorem dX7_packedSet_40 : decode cX7_packedSet 40 = .ok (.getfield 23, 3) := by decide +kernel
theorem dX7_packedSet_43 : decode cX7_packedSet 43 = .ok (.iconst 3, 1) := by decide +kernel
theorem dX7_packedSet_44 : decode cX7_packedSet 44 = .ok (.iaload, 1) := by decide +kernel
theorem dX7_packedSet_45 : decode cX7_packedSet 45 = .ok (.idiv, 1) := by decide +kernel
theorem dX7_packedSet_46 : decode cX7_packedSet 46 = .ok (.aload_n 0, 1) := by decide +kernel
theorem dX7_packedSet_47 : decode cX7_packedSet 47 = .ok (.getfield 23, 3) := by decide +kernel
theorem dX7_packedSet_50 : decode cX7_packedSet 50 = .ok (.iconst 3, 1) := by decide +kernel
theorem dX7_packedSet_51 : decode cX7_packedSet 51 = .ok (.iaload, 1) := by decide +kernel
theorem dX7_packedSet_52 : decode cX7_packedSet 52 = .ok (.imul, 1) := by decide +kernel
theorem dX7_packedSet_53 : decode cX7_packedSet 53 = .ok (.if_icmp .le 6, 3) := by decide +kernel
theorem dX7_packedSet_56 : decode cX7_packedSet 56 = .ok (.goto 21, 3) := by decide +kernel
theorem dX7_packedSet_59 : decode cX7_packedSet 59 = .ok (.iload_n 2, 1) := by decide +kernel
theorem dX7_packedSet_60 : decode cX7_packedSet 60 = .ok (.iconst 1, 1) := by decide +kernel
theorem dX7_packedSet_61 : decode cX7_packedSet 61 = .ok (.iload_n 3, 1) := by decide +kernel
theorem dX7_packedSet_62 : decode cX7_packedSet 62 = .ok (.ishl, 1) := by decide +kernel
theorem dX7_packedSet_63 : decode cX7_packedSet 63 = .ok (.iconst 1, 1) := by decide +kernel
theorem dX7_packedSet_64 : decode cX7_packedSet 64 = .ok (.aload_n 0, 1) := by decide +kernel
theorem dX7_packedSet_65 : decode cX7_packedSet 65 = .ok (.getfield 32, 3) := by decide +kernel
theorem dX7_packedSet_68 : decode cX7_packedSet 68 = .ok (.iload_n 3, 1) := by decide +kernel
theorem dX7_packedSet_69 : decode cX7_packedSet 69 = .ok (.iaload, 1) := by decide +kernel
theorem dX7_packedSet_70 : decode cX7_packedSet 70 = .ok (.ishl, 1) := by decide +kernel
theorem dX7_packedSet_71 : decode cX7_packedSet 71 = .ok (.ior, 1) := by decide +kernel
theorem dX7_packedSet_72 : decode cX7_packedSet 72 = .ok (.ior, 1) := by decide +kernel
theorem dX7_packedSet_73 : decode cX7_packedSet 73 = .ok (.istore_n 2, 1) := by decide +kernel
theorem dX7_packedSet_74 : decode cX7_packedSet 74 = .ok (.iinc 1 1, 3) := by decide +kernel
theorem dX7_packedSet_77 : decode cX7_packedSet 77 = .ok (.iinc 3 1, 3) := by decide +kernel
theorem dX7_packedSet_80 : decode cX7_packedSet 80 = .ok (.goto (-69), 3) := by decide +kernel
theorem dX7_packedSet_83 : decode cX7_packedSet 83 = .ok (.aload_n 0, 1) := by decide +kernel
theorem dX7_packedSet_84 : decode cX7_packedSet 84 = .ok (.iload_n 1, 1) := by decide +kernel
theorem dX7_packedSet_85 : decode cX7_packedSet 85 = .ok (.aload_n 0, 1) := by decide +kernel
theorem dX7_packedSet_86 : decode cX7_packedSet 86 = .ok (.getfield 23, 3) := by decide +kernel
theorem dX7_packedSet_89 : decode cX7_packedSet 89 = .ok (.iconst 3, 1) := by decide +kernel
theorem dX7_packedSet_90 : decode cX7_packedSet 90 = .ok (.iaload, 1) := by decide +kernel
theorem dX7_packedSet_91 : decode cX7_packedSet 91 = .ok (.idiv, 1) := by decide +kernel
theorem dX7_packedSet_92 : decode cX7_packedSet 92 = .ok (.putfield 147, 3) := by decide +kernel
theorem dX7_packedSet_95 : decode cX7_packedSet 95 = .ok (.iload_n 2, 1) := by decide +kernel
theorem dX7_packedSet_96 : decode cX7_packedSet 96 = .ok (.ireturn, 1) := by decide +kernel
def fX7_packedSet_11   (m : Md) : Nat → Int32 → Int32 → Int32 → Int32 × Int32 × Int32
  | 0, x3, x2, x1 => (x3, x2, x1)
  | fu + 1, x3, x2, x1 => (if (fX7_count m ) ≤ x3 then (x3, x2, x1) else (if (fX7_isSized m x3) = 0 then (fX7_packedSet_11   m fu (x3 + 1) x2 x1 ) else (if (fX7_inGroup m x3 0) ≤ (((fX7_inGroup m x3 1) / ((m.2.1 (m.2.2)) 3)) * ((m.2.1 (m.2.2)) 3)) then (fX7_packedSet_11   m fu (x3 + 1) (x2 ||| (((1 : Int32) <<< (x3 &&& 31)) ||| ((1 : Int32) <<< (((m.2.1 5) x3.toNatClampNeg) &&& 31)))) (x1 + 1) ) else (fX7_packedSet_11   m fu (x3 + 1) x2 x1 ))))
def sX7_packedSet_11   (m : Md) : Nat → Int32 → Int32 → Int32 → Prop
  | 0, _, _, _ => True
  | fu + 1, x3, x2, x1 => (((fX7_count m ) ≤ x3 → True) ∧ (¬ (fX7_count m ) ≤ x3 → ((sX7_isSized m x3) ∧ (((fX7_isSized m x3) = 0 → (sX7_packedSet_11   m fu (x3 + 1) x2 x1 )) ∧ (¬ (fX7_isSized m x3) = 0 → ((sX7_inGroup m x3 0) ∧ ((sX7_inGroup m x3 1) ∧ (¬ ((m.2.1 (m.2.2)) 3) = 0 ∧ (((fX7_inGroup m x3 0) ≤ (((fX7_inGroup m x3 1) / ((m.2.1 (m.2.2)) 3)) * ((m.2.1 (m.2.2)) 3)) → (vp_in x3 14 ∧ (sX7_packedSet_11   m fu (x3 + 1) (x2 ||| (((1 : Int32) <<< (x3 &&& 31)) ||| ((1 : Int32) <<< (((m.2.1 5) x3.toNatClampNeg) &&& 31)))) (x1 + 1) ))) ∧ (¬ (fX7_inGroup m x3 0) ≤ (((fX7_inGroup m x3 1) / ((m.2.1 (m.2.2)) 3)) * ((m.2.1 (m.2.2)) 3)) → (sX7_packedSet_11   m fu (x3 + 1) x2 x1 )))))))))))
set_option maxRecDepth 20000 in
theorem wX7_packedSet_11 {l : Launch} {G : GM} {K : Nat → Option va_E}    {h : List va_E} {m : Md} (hm : HM G K h m) {Q : Option Value → List va_E → Prop} : ∀ (fu : Nat) (x3 x2 x1 : Int32) (iv : ivU (fX7_count m ) x3 fu) (hs : sX7_packedSet_11   m fu x3 x2 x1 ) (kx : ∀ (r : Int32 × Int32 × Int32), (fX7_packedSet_11   m fu x3 x2 x1 ) = r → Tr l G mX7_packedSet 8 0 0 83 [(3, .int r.1), (2, .int r.2.1), (1, .int r.2.2), (0, .ref (gz G + 221))] [] h Q), Tr l G mX7_packedSet 8 0 0 11 [(3, .int x3), (2, .int x2), (1, .int x1), (0, .ref (gz G + 221))] [] h Q := by
  intro fu
  induction fu with
  | zero => intro x3 x2 x1 iv; intros; exact absurd iv ivU_0
  | succ fu ih =>
    intro x3 x2 x1 iv hs    kx
    rw [sX7_packedSet_11] at hs
    refine am_iload_n dX7_packedSet_11 0 rfl ?_
    refine am_aload_n dX7_packedSet_12 3 rfl ?_
    refine am_callV (As := []) (rest := [.int x3]) dX7_packedSet_13 kMX7_85 rfl (hmc221 (m := m) hm) rfl rfl (Nat.le_of_ble_eq_true rfl) (d2 := 0) (by decide) (k2 := 0) (Nat.zero_le _) (u2 := 0) (Nat.zero_le _) (Nat.le_of_ble_eq_true rfl) (ctX7_count (m := m) hm  ) (fun v8 h9 q10 => ?_)
    obtain ⟨rfl, rfl⟩ := q10
    refine am_icmp_ge dX7_packedSet_16 (by decide : ((16 : Nat) : Int) + (67) = ((83 : Nat) : Int)) (fun c11 => ?_) (fun c11 => ?_)
    · have hs := hs.1 c11
      exact kx _ (ifp c11 (rfl))
    · have hs := hs.2 c11
      refine am_aload_n dX7_packedSet_19 3 rfl ?_
      refine am_iload_n dX7_packedSet_20 0 rfl ?_
      obtain ⟨i12, hs⟩ := hs
      refine am_callV (As := [.int x3]) (rest := []) dX7_packedSet_21 kMX7_133 rfl (hmc221 (m := m) hm) rfl rfl (Nat.le_of_ble_eq_true rfl) (d2 := 3) (by decide) (k2 := 0) (Nat.zero_le _) (u2 := 0) (Nat.zero_le _) (Nat.le_of_ble_eq_true rfl) (ctX7_isSized (m := m) hm x3 i12) (fun v13 h14 q15 => ?_)
      obtain ⟨rfl, rfl⟩ := q15
      refine am_if_eq dX7_packedSet_24 (by decide : ((24 : Nat) : Int) + (53) = ((77 : Nat) : Int)) (fun c16 => ?_) (fun c16 => ?_)
      · have hs := hs.1 c16
        refine am_iinc (v := (x3 + 1)) dX7_packedSet_77 0 rfl rfl (by decide) (lv' := [(3, .int (x3 + 1)), (2, .int x2), (1, .int x1), (0, .ref (gz G + 221))]) rfl ?_
        refine am_goto dX7_packedSet_80 (by decide : ((80 : Nat) : Int) + (-69) = ((11 : Nat) : Int)) ?_
        exact ih (x3 + 1) x2 x1 (ivU_s c11 iv) hs (fun r e => kx r (Eq.trans (ifn c11 (ifp c16 (rfl))) e))
      · have hs := hs.2 c16
        refine am_aload_n dX7_packedSet_27 3 rfl ?_
        refine am_iload_n dX7_packedSet_28 0 rfl ?_
        refine am_iconst (v := 0) dX7_packedSet_29 (by decide) ?_
        obtain ⟨i17, hs⟩ := hs
        refine am_callV (As := [.int x3, .int 0]) (rest := []) dX7_packedSet_30 kMX7_143 rfl (hmc221 (m := m) hm) rfl rfl (Nat.le_of_ble_eq_true rfl) (d2 := 4) (by decide) (k2 := 0) (Nat.zero_le _) (u2 := 0) (Nat.zero_le _) (Nat.le_of_ble_eq_true rfl) (ctX7_inGroup (m := m) hm x3 0 i17) (fun v18 h19 q20 => ?_)
        obtain ⟨rfl, rfl⟩ := q20
        refine am_aload_n dX7_packedSet_33 3 rfl ?_
        refine am_iload_n dX7_packedSet_34 0 rfl ?_
        refine am_iconst (v := 1) dX7_packedSet_35 (by decide) ?_
        obtain ⟨i21, hs⟩ := hs
        refine am_callV (As := [.int x3, .int 1]) (rest := [.int (fX7_inGroup m x3 0)]) dX7_packedSet_36 kMX7_143 rfl (hmc221 (m := m) hm) rfl rfl (Nat.le_of_ble_eq_true rfl) (d2 := 4) (by decide) (k2 := 0) (Nat.zero_le _) (u2 := 0) (Nat.zero_le _) (Nat.le_of_ble_eq_true rfl) (ctX7_inGroup (m := m) hm x3 1 i21) (fun v22 h23 q24 => ?_)
        obtain ⟨rfl, rfl⟩ := q24
        refine am_aload_n dX7_packedSet_39 3 rfl ?_
        refine am_get (v := .ref (gz G + (222 + (m.2.2)))) dX7_packedSet_40 kGX7_23 (hmc221 (m := m) hm) rfl ?_
        refine am_iconst (v := 3) dX7_packedSet_43 (by decide) ?_
        refine am_iald (f := (m.2.1 (m.2.2))) dX7_packedSet_44 (hmN (m := m) hm) (vp_lit (by decide)) ?_
        rw [tl3]
        obtain ⟨i25, hs⟩ := hs
        refine am_idiv dX7_packedSet_45 i25 ?_
        refine am_aload_n dX7_packedSet_46 3 rfl ?_
        refine am_get (v := .ref (gz G + (222 + (m.2.2)))) dX7_packedSet_47 kGX7_23 (hmc221 (m := m) hm) rfl ?_
        refine am_iconst (v := 3) dX7_packedSet_50 (by decide) ?_
        refine am_iald (f := (m.2.1 (m.2.2))) dX7_packedSet_51 (hmN (m := m) hm) (vp_lit (by decide)) ?_
        rw [tl3]
        refine am_imul dX7_packedSet_52 ?_
        refine am_icmp_le dX7_packedSet_53 (by decide : ((53 : Nat) : Int) + (6) = ((59 : Nat) : Int)) (fun c26 => ?_) (fun c26 => ?_)
        · have hs := hs.1 c26
          refine am_iload_n dX7_packedSet_59 1 rfl ?_
          refine am_iconst (v := 1) dX7_packedSet_60 (by decide) ?_
          refine am_iload_n dX7_packedSet_61 0 rfl ?_
          refine am_ishl dX7_packedSet_62 ?_
          refine am_iconst (v := 1) dX7_packedSet_63 (by decide) ?_
          refine am_aload_n dX7_packedSet_64 3 rfl ?_
          refine am_get (v := .ref (gz G + 227)) dX7_packedSet_65 kGX7_32 (hmc221 (m := m) hm) rfl ?_
          refine am_iload_n dX7_packedSet_68 0 rfl ?_
          obtain ⟨i27, hs⟩ := hs
          refine am_iald (f := (m.2.1 5)) dX7_packedSet_69 (hmc227 (m := m) hm) i27 ?_
          refine am_ishl dX7_packedSet_70 ?_
          refine am_ior dX7_packedSet_71 ?_
          refine am_ior dX7_packedSet_72 ?_
          refine am_istore_n dX7_packedSet_73 (by decide) (lv' := [(2, .int (x2 ||| (((1 : Int32) <<< (x3 &&& 31)) ||| ((1 : Int32) <<< (((m.2.1 5) x3.toNatClampNeg) &&& 31))))), (3, .int x3), (1, .int x1), (0, .ref (gz G + 221))]) rfl ?_
          refine am_iinc (v := (x1 + 1)) dX7_packedSet_74 2 rfl rfl (by decide) (lv' := [(1, .int (x1 + 1)), (2, .int (x2 ||| (((1 : Int32) <<< (x3 &&& 31)) ||| ((1 : Int32) <<< (((m.2.1 5) x3.toNatClampNeg) &&& 31))))), (3, .int x3), (0, .ref (gz G + 221))]) rfl ?_
          refine am_iinc (v := (x3 + 1)) dX7_packedSet_77 2 rfl rfl (by decide) (lv' := [(3, .int (x3 + 1)), (1, .int (x1 + 1)), (2, .int (x2 ||| (((1 : Int32) <<< (x3 &&& 31)) ||| ((1 : Int32) <<< (((m.2.1 5) x3.toNatClampNeg) &&& 31))))), (0, .ref (gz G + 221))]) rfl ?_
          refine am_goto dX7_packedSet_80 (by decide : ((80 : Nat) : Int) + (-69) = ((11 : Nat) : Int)) ?_
          refine am_lv (lv' := [(3, .int (x3 + 1)), (2, .int (x2 ||| (((1 : Int32) <<< (x3 &&& 31)) ||| ((1 : Int32) <<< (((m.2.1 5) x3.toNatClampNeg) &&& 31))))), (1, .int (x1 + 1)), (0, .ref (gz G + 221))]) [0, 2, 1, 3] rfl ?_
          exact ih (x3 + 1) (x2 ||| (((1 : Int32) <<< (x3 &&& 31)) ||| ((1 : Int32) <<< (((m.2.1 5) x3.toNatClampNeg) &&& 31)))) (x1 + 1) (ivU_s c11 iv) hs (fun r e => kx r (Eq.trans (ifn c11 (ifn c16 (ifp c26 (rfl)))) e))
        · have hs := hs.2 c26
          refine am_goto dX7_packedSet_56 (by decide : ((56 : Nat) : Int) + (21) = ((77 : Nat) : Int)) ?_
          refine am_iinc (v := (x3 + 1)) dX7_packedSet_77 0 rfl rfl (by decide) (lv' := [(3, .int (x3 + 1)), (2, .int x2), (1, .int x1), (0, .ref (gz G + 221))]) rfl ?_
          refine am_goto dX7_packedSet_80 (by decide : ((80 : Nat) : Int) + (-69) = ((11 : Nat) : Int)) ?_
          exact ih (x3 + 1) x2 x1 (ivU_s c11 iv) hs (fun r e => kx r (Eq.trans (ifn c11 (ifn c16 (ifn c26 (rfl)))) e))
def fX7_packedSet (m : Md)  : Int32 × Md := (bnd (fX7_layPartners m ) (fun r5 => (bnd (fX7_packedSet_11   r5.2 (fuU (fX7_count r5.2 ) 0) 0 0 0 ) (fun r29 => (r29.2.1, (mS r5.2 1 (r29.2.2 / ((r5.2.2.1 (r5.2.2.2)) 3))))))))
def sX7_packedSet (m : Md)  : Prop := ((sX7_layPartners m ) ∧ (bnd (fX7_layPartners m ) (fun r5 => ((sX7_packedSet_11   r5.2 (fuU (fX7_count r5.2 ) 0) 0 0 0 ) ∧ bnd (fX7_packedSet_11   r5.2 (fuU (fX7_count r5.2 ) 0) 0 0 0 ) (fun r29 => (¬ ((r5.2.2.1 (r5.2.2.2)) 3) = 0 ∧ True))))))
set_option maxRecDepth 20000 in
theorem ctX7_packedSet {l : Launch} {G : GM} {K : Nat → Option va_E} {h : List va_E} {m : Md} (hm : HM G K h m)  (hs : sX7_packedSet m ) : Ct l G mX7_packedSet 8 0 0 [.ref (gz G + 221)] h (fun v h1 => ∃ r, (fX7_packedSet m ) = r ∧ v = some (.int r.1) ∧ HM G K h1 r.2) := by
  show Tr l G mX7_packedSet 8 0 0 0 [(0, .ref (gz G + 221))] [] h _
  unfold sX7_packedSet at hs
  refine am_aload_n dX7_packedSet_0 0 rfl ?_
  obtain ⟨i1, hs⟩ := hs
  refine am_callV (As := []) (rest := []) dX7_packedSet_1 kMX7_140 rfl (hmc221 (m := m) hm) rfl rfl (Nat.le_of_ble_eq_true rfl) (d2 := 7) (by decide) (k2 := 0) (Nat.zero_le _) (u2 := 0) (Nat.zero_le _) (Nat.le_of_ble_eq_true rfl) (ctX7_layPartners (m := m) hm  i1) (fun v2 h3 q4 => ?_)
  obtain ⟨r5, e6, rfl, w7⟩ := q4
  have hs := bnd_p e6 hs
  refine am_pop dX7_packedSet_4 rfl ?_
  refine am_iconst (v := 0) dX7_packedSet_5 (by decide) ?_
  refine am_istore_n dX7_packedSet_6 (by decide) (lv' := [(1, .int 0), (0, .ref (gz G + 221))]) rfl ?_
  refine am_iconst (v := 0) dX7_packedSet_7 (by decide) ?_
  refine am_istore_n dX7_packedSet_8 (by decide) (lv' := [(2, .int 0), (1, .int 0), (0, .ref (gz G + 221))]) rfl ?_
  refine am_iconst (v := 0) dX7_packedSet_9 (by decide) ?_
  refine am_istore_n dX7_packedSet_10 (by decide) (lv' := [(3, .int 0), (2, .int 0), (1, .int 0), (0, .ref (gz G + 221))]) rfl ?_
  obtain ⟨i28, hs⟩ := hs
  refine wX7_packedSet_11    w7 (fuU (fX7_count r5.2 ) 0) 0 0 0 ivU_i i28 (fun r29 e30 => ?_)
  have hs := bnd_p e30 hs
  refine am_aload_n dX7_packedSet_83 3 rfl ?_
  refine am_iload_n dX7_packedSet_84 2 rfl ?_
  refine am_aload_n dX7_packedSet_85 3 rfl ?_
  refine am_get (v := .ref (gz G + (222 + (r5.2.2.2)))) dX7_packedSet_86 kGX7_23 (hmc221 (m := r5.2) w7) rfl ?_
  refine am_iconst (v := 3) dX7_packedSet_89 (by decide) ?_
  refine am_iald (f := (r5.2.2.1 (r5.2.2.2))) dX7_packedSet_90 (hmN (m := r5.2) w7) (vp_lit (by decide)) ?_
  rw [tl3]
  obtain ⟨i31, hs⟩ := hs
  refine am_idiv dX7_packedSet_91 i31 ?_
  refine am_put dX7_packedSet_92 kFX7_147 (hmc221 (m := r5.2) w7) (Nat.le_of_ble_eq_true rfl) rfl rfl ?_
  have w32 := hmS1 w7 (r29.2.2 / ((r5.2.2.1 (r5.2.2.2)) 3))
  refine am_iload_n dX7_packedSet_95 1 rfl ?_
  exact am_ireturn dX7_packedSet_96 rfl rfl ⟨_, bnd_eq e6 (bnd_eq e30 (rfl)), rfl, w32⟩

theorem dX7_yarnCount_0 : decode cX7_yarnCount 0 = .ok (.aload_n 0, 1) := by decide +kernel
theorem dX7_yarnCount_1 : decode cX7_yarnCount 1 = .ok (.getfield 13, 3) := by decide +kernel
theorem dX7_yarnCount_4 : decode cX7_yarnCount 4 = .ok (.iconst 5, 1) := by decide +kernel
theorem dX7_yarnCount_5 : decode cX7_yarnCount 5 = .ok (.iaload, 1) := by decide +kernel
theorem dX7_yarnCount_6 : decode cX7_yarnCount 6 = .ok (.ireturn, 1) := by decide +kernel
def fX7_yarnCount (m : Md)  : Int32 := ((m.2.1 0) 5)
set_option maxRecDepth 20000 in
theorem ctX7_yarnCount {l : Launch} {G : GM} {K : Nat → Option va_E} {h : List va_E} {m : Md} (hm : HM G K h m)  : Ct l G mX7_yarnCount 0 0 0 [.ref (gz G + 221)] h (fun v h1 => v = some (.int (fX7_yarnCount m )) ∧ h1 = h) := by
  show Tr l G mX7_yarnCount 0 0 0 0 [(0, .ref (gz G + 221))] [] h _
  refine am_aload_n dX7_yarnCount_0 0 rfl ?_
  refine am_get (v := .ref (gz G + 222)) dX7_yarnCount_1 kGX7_13 (hmc221 (m := m) hm) rfl ?_
  refine am_iconst (v := 5) dX7_yarnCount_4 (by decide) ?_
  refine am_iald (f := (m.2.1 0)) dX7_yarnCount_5 (hmc222 (m := m) hm) (vp_lit (by decide)) ?_
  rw [tl5]
  rw [show (fX7_yarnCount m ) = ((m.2.1 0) 5) from rfl]
  exact am_ireturn dX7_yarnCount_6 rfl rfl ⟨rfl, rfl⟩

theorem dX7_shapeCount_0 : decode cX7_shapeCount 0 = .ok (.aload_n 0, 1) := by decide +kernel
theorem dX7_shapeCount_1 : decode cX7_shapeCount 1 = .ok (.getfield 13, 3) := by decide +kernel
theorem dX7_shapeCount_4 : decode cX7_shapeCount 4 = .ok (.bipush 6, 2) := by decide +kernel
theorem dX7_shapeCount_6 : decode cX7_shapeCount 6 = .ok (.iaload, 1) := by decide +kernel
theorem dX7_shapeCount_7 : decode cX7_shapeCount 7 = .ok (.ireturn, 1) := by decide +kernel
def fX7_shapeCount (m : Md)  : Int32 := ((m.2.1 0) 6)
set_option maxRecDepth 20000 in
theorem ctX7_shapeCount {l : Launch} {G : GM} {K : Nat → Option va_E} {h : List va_E} {m : Md} (hm : HM G K h m)  : Ct l G mX7_shapeCount 0 0 0 [.ref (gz G + 221)] h (fun v h1 => v = some (.int (fX7_shapeCount m )) ∧ h1 = h) := by
  show Tr l G mX7_shapeCount 0 0 0 0 [(0, .ref (gz G + 221))] [] h _
  refine am_aload_n dX7_shapeCount_0 0 rfl ?_
  refine am_get (v := .ref (gz G + 222)) dX7_shapeCount_1 kGX7_13 (hmc221 (m := m) hm) rfl ?_
  refine am_bipush (v := 6) dX7_shapeCount_4 (by decide) ?_
  refine am_iald (f := (m.2.1 0)) dX7_shapeCount_6 (hmc222 (m := m) hm) (vp_lit (by decide)) ?_
  rw [tl6]
  rw [show (fX7_shapeCount m ) = ((m.2.1 0) 6) from rfl]
  exact am_ireturn dX7_shapeCount_7 rfl rfl ⟨rfl, rfl⟩

theorem dX7_sizeCount_0 : decode cX7_sizeCount 0 = .ok (.aload_n 0, 1) := by decide +kernel
theorem dX7_sizeCount_1 : decode cX7_sizeCount 1 = .ok (.getfield 13, 3) := by decide +kernel
theorem dX7_sizeCount_4 : decode cX7_sizeCount 4 = .ok (.bipush 7, 2) := by decide +kernel
theorem dX7_sizeCount_6 : decode cX7_sizeCount 6 = .ok (.iaload, 1) := by decide +kernel
theorem dX7_sizeCount_7 : decode cX7_sizeCount 7 = .ok (.ireturn, 1) := by decide +kernel
def fX7_sizeCount (m : Md)  : Int32 := ((m.2.1 0) 7)
set_option maxRecDepth 20000 in
theorem ctX7_sizeCount {l : Launch} {G : GM} {K : Nat → Option va_E} {h : List va_E} {m : Md} (hm : HM G K h m)  : Ct l G mX7_sizeCount 0 0 0 [.ref (gz G + 221)] h (fun v h1 => v = some (.int (fX7_sizeCount m )) ∧ h1 = h) := by
  show Tr l G mX7_sizeCount 0 0 0 0 [(0, .ref (gz G + 221))] [] h _
  refine am_aload_n dX7_sizeCount_0 0 rfl ?_
  refine am_get (v := .ref (gz G + 222)) dX7_sizeCount_1 kGX7_13 (hmc221 (m := m) hm) rfl ?_
  refine am_bipush (v := 7) dX7_sizeCount_4 (by decide) ?_
  refine am_iald (f := (m.2.1 0)) dX7_sizeCount_6 (hmc222 (m := m) hm) (vp_lit (by decide)) ?_
  rw [tl7]
  rw [show (fX7_sizeCount m ) = ((m.2.1 0) 7) from rfl]
  exact am_ireturn dX7_sizeCount_7 rfl rfl ⟨rfl, rfl⟩

theorem dX7_pieceCount_0 : decode cX7_pieceCount 0 = .ok (.aload_n 0, 1) := by decide +kernel
theorem dX7_pieceCount_1 : decode cX7_pieceCount 1 = .ok (.getfield 13, 3) := by decide +kernel
theorem dX7_pieceCount_4 : decode cX7_pieceCount 4 = .ok (.bipush 8, 2) := by decide +kernel
theorem dX7_pieceCount_6 : decode cX7_pieceCount 6 = .ok (.iaload, 1) := by decide +kernel
theorem dX7_pieceCount_7 : decode cX7_pieceCount 7 = .ok (.ireturn, 1) := by decide +kernel
def fX7_pieceCount (m : Md)  : Int32 := ((m.2.1 0) 8)
set_option maxRecDepth 20000 in
theorem ctX7_pieceCount {l : Launch} {G : GM} {K : Nat → Option va_E} {h : List va_E} {m : Md} (hm : HM G K h m)  : Ct l G mX7_pieceCount 0 0 0 [.ref (gz G + 221)] h (fun v h1 => v = some (.int (fX7_pieceCount m )) ∧ h1 = h) := by
  show Tr l G mX7_pieceCount 0 0 0 0 [(0, .ref (gz G + 221))] [] h _
  refine am_aload_n dX7_pieceCount_0 0 rfl ?_
  refine am_get (v := .ref (gz G + 222)) dX7_pieceCount_1 kGX7_13 (hmc221 (m := m) hm) rfl ?_
  refine am_bipush (v := 8) dX7_pieceCount_4 (by decide) ?_
  refine am_iald (f := (m.2.1 0)) dX7_pieceCount_6 (hmc222 (m := m) hm) (vp_lit (by decide)) ?_
  rw [tl8]
  rw [show (fX7_pieceCount m ) = ((m.2.1 0) 8) from rfl]
  exact am_ireturn dX7_pieceCount_7 rfl rfl ⟨rfl, rfl⟩

theorem dX7_days_0 : decode cX7_days 0 = .ok (.aload_n 0, 1) := by decide +kernel
theorem dX7_days_1 : decode cX7_days 1 = .ok (.getfield 13, 3) := by decide +kernel
theorem dX7_days_4 : decode cX7_days 4 = .ok (.iconst 4, 1) := by decide +kernel
theorem dX7_days_5 : decode cX7_days 5 = .ok (.iaload, 1) := by decide +kernel
theorem dX7_days_6 : decode cX7_days 6 = .ok (.ireturn, 1) := by decide +kernel
def fX7_days (m : Md)  : Int32 := ((m.2.1 0) 4)
set_option maxRecDepth 20000 in
theorem ctX7_days {l : Launch} {G : GM} {K : Nat → Option va_E} {h : List va_E} {m : Md} (hm : HM G K h m)  : Ct l G mX7_days 0 0 0 [.ref (gz G + 221)] h (fun v h1 => v = some (.int (fX7_days m )) ∧ h1 = h) := by
  show Tr l G mX7_days 0 0 0 0 [(0, .ref (gz G + 221))] [] h _
  refine am_aload_n dX7_days_0 0 rfl ?_
  refine am_get (v := .ref (gz G + 222)) dX7_days_1 kGX7_13 (hmc221 (m := m) hm) rfl ?_
  refine am_iconst (v := 4) dX7_days_4 (by decide) ?_
  refine am_iald (f := (m.2.1 0)) dX7_days_5 (hmc222 (m := m) hm) (vp_lit (by decide)) ?_
  rw [tl4]
  rw [show (fX7_days m ) = ((m.2.1 0) 4) from rfl]
  exact am_ireturn dX7_days_6 rfl rfl ⟨rfl, rfl⟩

theorem dX7_lengthTolerance_0 : decode cX7_lengthTolerance 0 = .ok (.aload_n 0, 1) := by decide +kernel
theorem dX7_lengthTolerance_1 : decode cX7_lengthTolerance 1 = .ok (.getfield 13, 3) := by decide +kernel
theorem dX7_lengthTolerance_4 : decode cX7_lengthTolerance 4 = .ok (.iconst 0, 1) := by decide +kernel
theorem dX7_lengthTolerance_5 : decode cX7_lengthTolerance 5 = .ok (.iaload, 1) := by decide +kernel
theorem dX7_lengthTolerance_6 : decode cX7_lengthTolerance 6 = .ok (.ireturn, 1) := by decide +kernel
def fX7_lengthTolerance (m : Md)  : Int32 := ((m.2.1 0) 0)
set_option maxRecDepth 20000 in
theorem ctX7_lengthTolerance {l : Launch} {G : GM} {K : Nat → Option va_E} {h : List va_E} {m : Md} (hm : HM G K h m)  : Ct l G mX7_lengthTolerance 0 0 0 [.ref (gz G + 221)] h (fun v h1 => v = some (.int (fX7_lengthTolerance m )) ∧ h1 = h) := by
  show Tr l G mX7_lengthTolerance 0 0 0 0 [(0, .ref (gz G + 221))] [] h _
  refine am_aload_n dX7_lengthTolerance_0 0 rfl ?_
  refine am_get (v := .ref (gz G + 222)) dX7_lengthTolerance_1 kGX7_13 (hmc221 (m := m) hm) rfl ?_
  refine am_iconst (v := 0) dX7_lengthTolerance_4 (by decide) ?_
  refine am_iald (f := (m.2.1 0)) dX7_lengthTolerance_5 (hmc222 (m := m) hm) (vp_lit (by decide)) ?_
  rw [tl0]
  rw [show (fX7_lengthTolerance m ) = ((m.2.1 0) 0) from rfl]
  exact am_ireturn dX7_lengthTolerance_6 rfl rfl ⟨rfl, rfl⟩

theorem dX7_shadeTolerance_0 : decode cX7_shadeTolerance 0 = .ok (.aload_n 0, 1) := by decide +kernel
theorem dX7_shadeTolerance_1 : decode cX7_shadeTolerance 1 = .ok (.getfield 13, 3) := by decide +kernel
theorem dX7_shadeTolerance_4 : decode cX7_shadeTolerance 4 = .ok (.iconst 1, 1) := by decide +kernel
theorem dX7_shadeTolerance_5 : decode cX7_shadeTolerance 5 = .ok (.iaload, 1) := by decide +kernel
theorem dX7_shadeTolerance_6 : decode cX7_shadeTolerance 6 = .ok (.ireturn, 1) := by decide +kernel
def fX7_shadeTolerance (m : Md)  : Int32 := ((m.2.1 0) 1)
set_option maxRecDepth 20000 in
theorem ctX7_shadeTolerance {l : Launch} {G : GM} {K : Nat → Option va_E} {h : List va_E} {m : Md} (hm : HM G K h m)  : Ct l G mX7_shadeTolerance 0 0 0 [.ref (gz G + 221)] h (fun v h1 => v = some (.int (fX7_shadeTolerance m )) ∧ h1 = h) := by
  show Tr l G mX7_shadeTolerance 0 0 0 0 [(0, .ref (gz G + 221))] [] h _
  refine am_aload_n dX7_shadeTolerance_0 0 rfl ?_
  refine am_get (v := .ref (gz G + 222)) dX7_shadeTolerance_1 kGX7_13 (hmc221 (m := m) hm) rfl ?_
  refine am_iconst (v := 1) dX7_shadeTolerance_4 (by decide) ?_
  refine am_iald (f := (m.2.1 0)) dX7_shadeTolerance_5 (hmc222 (m := m) hm) (vp_lit (by decide)) ?_
  rw [tl1]
  rw [show (fX7_shadeTolerance m ) = ((m.2.1 0) 1) from rfl]
  exact am_ireturn dX7_shadeTolerance_6 rfl rfl ⟨rfl, rfl⟩

theorem dX7_steam_0 : decode cX7_steam 0 = .ok (.aload_n 0, 1) := by decide +kernel
theorem dX7_steam_1 : decode cX7_steam 1 = .ok (.getfield 13, 3) := by decide +kernel
theorem dX7_steam_4 : decode cX7_steam 4 = .ok (.iconst 2, 1) := by decide +kernel
theorem dX7_steam_5 : decode cX7_steam 5 = .ok (.iaload, 1) := by decide +kernel
theorem dX7_steam_6 : decode cX7_steam 6 = .ok (.ireturn, 1) := by decide +kernel
def fX7_steam (m : Md)  : Int32 := ((m.2.1 0) 2)
set_option maxRecDepth 20000 in
theorem ctX7_steam {l : Launch} {G : GM} {K : Nat → Option va_E} {h : List va_E} {m : Md} (hm : HM G K h m)  : Ct l G mX7_steam 0 0 0 [.ref (gz G + 221)] h (fun v h1 => v = some (.int (fX7_steam m )) ∧ h1 = h) := by
  show Tr l G mX7_steam 0 0 0 0 [(0, .ref (gz G + 221))] [] h _
  refine am_aload_n dX7_steam_0 0 rfl ?_
  refine am_get (v := .ref (gz G + 222)) dX7_steam_1 kGX7_13 (hmc221 (m := m) hm) rfl ?_
  refine am_iconst (v := 2) dX7_steam_4 (by decide) ?_
  refine am_iald (f := (m.2.1 0)) dX7_steam_5 (hmc222 (m := m) hm) (vp_lit (by decide)) ?_
  rw [tl2]
  rw [show (fX7_steam m ) = ((m.2.1 0) 2) from rfl]
  exact am_ireturn dX7_steam_6 rfl rfl ⟨rfl, rfl⟩

theorem dX7_length_0 : decode cX7_length 0 = .ok (.aload_n 0, 1) := by decide +kernel
theorem dX7_length_1 : decode cX7_length 1 = .ok (.iload_n 1, 1) := by decide +kernel
theorem dX7_length_2 : decode cX7_length 2 = .ok (.invokevirtual 150, 3) := by decide +kernel
theorem dX7_length_5 : decode cX7_length 5 = .ok (.ifCond .eq 12, 3) := by decide +kernel
theorem dX7_length_8 : decode cX7_length 8 = .ok (.aload_n 0, 1) := by decide +kernel
theorem dX7_length_9 : decode cX7_length 9 = .ok (.iload_n 1, 1) := by decide +kernel
theorem dX7_length_10 : decode cX7_length 10 = .ok (.iconst 3, 1) := by decide +kernel
theorem dX7_length_11 : decode cX7_length 11 = .ok (.invokevirtual 60, 3) := by decide +kernel
theorem dX7_length_14 : decode cX7_length 14 = .ok (.goto 5, 3) := by decide +kernel
theorem dX7_length_17 : decode cX7_length 17 = .ok (.bipush (-2), 2) := by decide +kernel
theorem dX7_length_19 : decode cX7_length 19 = .ok (.ireturn, 1) := by decide +kernel
def fX7_length (m : Md) (z1 : Int32) : Int32 := (if (fX7_isPiece m z1) = 0 then (-2) else (fX7_field m z1 3))
def sX7_length (m : Md) (z1 : Int32) : Prop := ((sX7_isPiece m z1) ∧ (((fX7_isPiece m z1) = 0 → True) ∧ (¬ (fX7_isPiece m z1) = 0 → ((sX7_field m z1 3) ∧ True))))
set_option maxRecDepth 20000 in
theorem ctX7_length {l : Launch} {G : GM} {K : Nat → Option va_E} {h : List va_E} {m : Md} (hm : HM G K h m) (z1 : Int32) (hs : sX7_length m z1) : Ct l G mX7_length 2 0 0 [.ref (gz G + 221), .int z1] h (fun v h1 => v = some (.int (fX7_length m z1)) ∧ h1 = h) := by
  show Tr l G mX7_length 2 0 0 0 [(0, .ref (gz G + 221)), (1, .int z1)] [] h _
  unfold sX7_length at hs
  refine am_aload_n dX7_length_0 0 rfl ?_
  refine am_iload_n dX7_length_1 1 rfl ?_
  obtain ⟨i1, hs⟩ := hs
  refine am_callV (As := [.int z1]) (rest := []) dX7_length_2 kMX7_150 rfl (hmc221 (m := m) hm) rfl rfl (Nat.le_of_ble_eq_true rfl) (d2 := 1) (by decide) (k2 := 0) (Nat.zero_le _) (u2 := 0) (Nat.zero_le _) (Nat.le_of_ble_eq_true rfl) (ctX7_isPiece (m := m) hm z1 i1) (fun v2 h3 q4 => ?_)
  obtain ⟨rfl, rfl⟩ := q4
  refine am_if_eq dX7_length_5 (by decide : ((5 : Nat) : Int) + (12) = ((17 : Nat) : Int)) (fun c5 => ?_) (fun c5 => ?_)
  · have hs := hs.1 c5
    refine am_bipush (v := (-2)) dX7_length_17 (by decide) ?_
    rw [show (fX7_length m z1) = (-2) from ifp c5 (rfl)]
    exact am_ireturn dX7_length_19 rfl rfl ⟨rfl, rfl⟩
  · have hs := hs.2 c5
    refine am_aload_n dX7_length_8 0 rfl ?_
    refine am_iload_n dX7_length_9 1 rfl ?_
    refine am_iconst (v := 3) dX7_length_10 (by decide) ?_
    obtain ⟨i6, hs⟩ := hs
    refine am_callV (As := [.int z1, .int 3]) (rest := []) dX7_length_11 kMX7_60 rfl (hmc221 (m := m) hm) rfl rfl (Nat.le_of_ble_eq_true rfl) (d2 := 1) (by decide) (k2 := 0) (Nat.zero_le _) (u2 := 0) (Nat.zero_le _) (Nat.le_of_ble_eq_true rfl) (ctX7_field (m := m) hm z1 3 i6) (fun v7 h8 q9 => ?_)
    obtain ⟨rfl, rfl⟩ := q9
    refine am_goto dX7_length_14 (by decide : ((14 : Nat) : Int) + (5) = ((19 : Nat) : Int)) ?_
    rw [show (fX7_length m z1) = (fX7_field m z1 3) from ifn c5 (rfl)]
    exact am_ireturn dX7_length_19 rfl rfl ⟨rfl, rfl⟩

theorem dX7_knitted_0 : decode cX7_knitted 0 = .ok (.aload_n 0, 1) := by decide +kernel
theorem dX7_knitted_1 : decode cX7_knitted 1 = .ok (.iload_n 1, 1) := by decide +kernel
theorem dX7_knitted_2 : decode cX7_knitted 2 = .ok (.invokevirtual 150, 3) := by decide +kernel
theorem dX7_knitted_5 : decode cX7_knitted 5 = .ok (.ifCond .eq 12, 3) := by decide +kernel
theorem dX7_knitted_8 : decode cX7_knitted 8 = .ok (.aload_n 0, 1) := by decide +kernel
theorem dX7_knitted_9 : decode cX7_knitted 9 = .ok (.iload_n 1, 1) := by decide +kernel
theorem dX7_knitted_10 : decode cX7_knitted 10 = .ok (.iconst 2, 1) := by decide +kernel
theorem dX7_knitted_11 : decode cX7_knitted 11 = .ok (.invokevirtual 60, 3) := by decide +kernel
theorem dX7_knitted_14 : decode cX7_knitted 14 = .ok (.goto 5, 3) := by decide +kernel
theorem dX7_knitted_17 : decode cX7_knitted 17 = .ok (.bipush (-2), 2) := by decide +kernel
theorem dX7_knitted_19 : decode cX7_knitted 19 = .ok (.ireturn, 1) := by decide +kernel
def fX7_knitted (m : Md) (z1 : Int32) : Int32 := (if (fX7_isPiece m z1) = 0 then (-2) else (fX7_field m z1 2))
def sX7_knitted (m : Md) (z1 : Int32) : Prop := ((sX7_isPiece m z1) ∧ (((fX7_isPiece m z1) = 0 → True) ∧ (¬ (fX7_isPiece m z1) = 0 → ((sX7_field m z1 2) ∧ True))))
set_option maxRecDepth 20000 in
theorem ctX7_knitted {l : Launch} {G : GM} {K : Nat → Option va_E} {h : List va_E} {m : Md} (hm : HM G K h m) (z1 : Int32) (hs : sX7_knitted m z1) : Ct l G mX7_knitted 2 0 0 [.ref (gz G + 221), .int z1] h (fun v h1 => v = some (.int (fX7_knitted m z1)) ∧ h1 = h) := by
  show Tr l G mX7_knitted 2 0 0 0 [(0, .ref (gz G + 221)), (1, .int z1)] [] h _
  unfold sX7_knitted at hs
  refine am_aload_n dX7_knitted_0 0 rfl ?_
  refine am_iload_n dX7_knitted_1 1 rfl ?_
  obtain ⟨i1, hs⟩ := hs
  refine am_callV (As := [.int z1]) (rest := []) dX7_knitted_2 kMX7_150 rfl (hmc221 (m := m) hm) rfl rfl (Nat.le_of_ble_eq_true rfl) (d2 := 1) (by decide) (k2 := 0) (Nat.zero_le _) (u2 := 0) (Nat.zero_le _) (Nat.le_of_ble_eq_true rfl) (ctX7_isPiece (m := m) hm z1 i1) (fun v2 h3 q4 => ?_)
  obtain ⟨rfl, rfl⟩ := q4
  refine am_if_eq dX7_knitted_5 (by decide : ((5 : Nat) : Int) + (12) = ((17 : Nat) : Int)) (fun c5 => ?_) (fun c5 => ?_)
  · have hs := hs.1 c5
    refine am_bipush (v := (-2)) dX7_knitted_17 (by decide) ?_
    rw [show (fX7_knitted m z1) = (-2) from ifp c5 (rfl)]
    exact am_ireturn dX7_knitted_19 rfl rfl ⟨rfl, rfl⟩
  · have hs := hs.2 c5
    refine am_aload_n dX7_knitted_8 0 rfl ?_
    refine am_iload_n dX7_knitted_9 1 rfl ?_
    refine am_iconst (v := 2) dX7_knitted_10 (by decide) ?_
    obtain ⟨i6, hs⟩ := hs
    refine am_callV (As := [.int z1, .int 2]) (rest := []) dX7_knitted_11 kMX7_60 rfl (hmc221 (m := m) hm) rfl rfl (Nat.le_of_ble_eq_true rfl) (d2 := 1) (by decide) (k2 := 0) (Nat.zero_le _) (u2 := 0) (Nat.zero_le _) (Nat.le_of_ble_eq_true rfl) (ctX7_field (m := m) hm z1 2 i6) (fun v7 h8 q9 => ?_)
    obtain ⟨rfl, rfl⟩ := q9
    refine am_goto dX7_knitted_14 (by decide : ((14 : Nat) : Int) + (5) = ((19 : Nat) : Int)) ?_
    rw [show (fX7_knitted m z1) = (fX7_field m z1 2) from ifn c5 (rfl)]
    exact am_ireturn dX7_knitted_19 rfl rfl ⟨rfl, rfl⟩

theorem dX7_shade_0 : decode cX7_shade 0 = .ok (.aload_n 0, 1) := by decide +kernel
theorem dX7_shade_1 : decode cX7_shade 1 = .ok (.iload_n 1, 1) := by decide +kernel
theorem dX7_shade_2 : decode cX7_shade 2 = .ok (.invokevirtual 150, 3) := by decide +kernel
theorem dX7_shade_5 : decode cX7_shade 5 = .ok (.ifCond .eq 12, 3) := by decide +kernel
theorem dX7_shade_8 : decode cX7_shade 8 = .ok (.aload_n 0, 1) := by decide +kernel
theorem dX7_shade_9 : decode cX7_shade 9 = .ok (.iload_n 1, 1) := by decide +kernel
theorem dX7_shade_10 : decode cX7_shade 10 = .ok (.iconst 4, 1) := by decide +kernel
theorem dX7_shade_11 : decode cX7_shade 11 = .ok (.invokevirtual 60, 3) := by decide +kernel
theorem dX7_shade_14 : decode cX7_shade 14 = .ok (.goto 5, 3) := by decide +kernel
theorem dX7_shade_17 : decode cX7_shade 17 = .ok (.bipush (-2), 2) := by decide +kernel
theorem dX7_shade_19 : decode cX7_shade 19 = .ok (.ireturn, 1) := by decide +kernel
def fX7_shade (m : Md) (z1 : Int32) : Int32 := (if (fX7_isPiece m z1) = 0 then (-2) else (fX7_field m z1 4))
def sX7_shade (m : Md) (z1 : Int32) : Prop := ((sX7_isPiece m z1) ∧ (((fX7_isPiece m z1) = 0 → True) ∧ (¬ (fX7_isPiece m z1) = 0 → ((sX7_field m z1 4) ∧ True))))
set_option maxRecDepth 20000 in
theorem ctX7_shade {l : Launch} {G : GM} {K : Nat → Option va_E} {h : List va_E} {m : Md} (hm : HM G K h m) (z1 : Int32) (hs : sX7_shade m z1) : Ct l G mX7_shade 2 0 0 [.ref (gz G + 221), .int z1] h (fun v h1 => v = some (.int (fX7_shade m z1)) ∧ h1 = h) := by
  show Tr l G mX7_shade 2 0 0 0 [(0, .ref (gz G + 221)), (1, .int z1)] [] h _
  unfold sX7_shade at hs
  refine am_aload_n dX7_shade_0 0 rfl ?_
  refine am_iload_n dX7_shade_1 1 rfl ?_
  obtain ⟨i1, hs⟩ := hs
  refine am_callV (As := [.int z1]) (rest := []) dX7_shade_2 kMX7_150 rfl (hmc221 (m := m) hm) rfl rfl (Nat.le_of_ble_eq_true rfl) (d2 := 1) (by decide) (k2 := 0) (Nat.zero_le _) (u2 := 0) (Nat.zero_le _) (Nat.le_of_ble_eq_true rfl) (ctX7_isPiece (m := m) hm z1 i1) (fun v2 h3 q4 => ?_)
  obtain ⟨rfl, rfl⟩ := q4
  refine am_if_eq dX7_shade_5 (by decide : ((5 : Nat) : Int) + (12) = ((17 : Nat) : Int)) (fun c5 => ?_) (fun c5 => ?_)
  · have hs := hs.1 c5
    refine am_bipush (v := (-2)) dX7_shade_17 (by decide) ?_
    rw [show (fX7_shade m z1) = (-2) from ifp c5 (rfl)]
    exact am_ireturn dX7_shade_19 rfl rfl ⟨rfl, rfl⟩
  · have hs := hs.2 c5
    refine am_aload_n dX7_shade_8 0 rfl ?_
    refine am_iload_n dX7_shade_9 1 rfl ?_
    refine am_iconst (v := 4) dX7_shade_10 (by decide) ?_
    obtain ⟨i6, hs⟩ := hs
    refine am_callV (As := [.int z1, .int 4]) (rest := []) dX7_shade_11 kMX7_60 rfl (hmc221 (m := m) hm) rfl rfl (Nat.le_of_ble_eq_true rfl) (d2 := 1) (by decide) (k2 := 0) (Nat.zero_le _) (u2 := 0) (Nat.zero_le _) (Nat.le_of_ble_eq_true rfl) (ctX7_field (m := m) hm z1 4 i6) (fun v7 h8 q9 => ?_)
    obtain ⟨rfl, rfl⟩ := q9
    refine am_goto dX7_shade_14 (by decide : ((14 : Nat) : Int) + (5) = ((19 : Nat) : Int)) ?_
    rw [show (fX7_shade m z1) = (fX7_field m z1 4) from ifn c5 (rfl)]
    exact am_ireturn dX7_shade_19 rfl rfl ⟨rfl, rfl⟩

theorem dX7_yarnOf_0 : decode cX7_yarnOf 0 = .ok (.aload_n 0, 1) := by decide +kernel
theorem dX7_yarnOf_1 : decode cX7_yarnOf 1 = .ok (.iload_n 1, 1) := by decide +kernel
theorem dX7_yarnOf_2 : decode cX7_yarnOf 2 = .ok (.invokevirtual 150, 3) := by decide +kernel
theorem dX7_yarnOf_5 : decode cX7_yarnOf 5 = .ok (.ifCond .eq 12, 3) := by decide +kernel
theorem dX7_yarnOf_8 : decode cX7_yarnOf 8 = .ok (.aload_n 0, 1) := by decide +kernel
theorem dX7_yarnOf_9 : decode cX7_yarnOf 9 = .ok (.iload_n 1, 1) := by decide +kernel
theorem dX7_yarnOf_10 : decode cX7_yarnOf 10 = .ok (.iconst 0, 1) := by decide +kernel
theorem dX7_yarnOf_11 : decode cX7_yarnOf 11 = .ok (.invokevirtual 60, 3) := by decide +kernel
theorem dX7_yarnOf_14 : decode cX7_yarnOf 14 = .ok (.goto 5, 3) := by decide +kernel
theorem dX7_yarnOf_17 : decode cX7_yarnOf 17 = .ok (.bipush (-2), 2) := by decide +kernel
theorem dX7_yarnOf_19 : decode cX7_yarnOf 19 = .ok (.ireturn, 1) := by decide +kernel
def fX7_yarnOf (m : Md) (z1 : Int32) : Int32 := (if (fX7_isPiece m z1) = 0 then (-2) else (fX7_field m z1 0))
def sX7_yarnOf (m : Md) (z1 : Int32) : Prop := ((sX7_isPiece m z1) ∧ (((fX7_isPiece m z1) = 0 → True) ∧ (¬ (fX7_isPiece m z1) = 0 → ((sX7_field m z1 0) ∧ True))))
set_option maxRecDepth 20000 in
theorem ctX7_yarnOf {l : Launch} {G : GM} {K : Nat → Option va_E} {h : List va_E} {m : Md} (hm : HM G K h m) (z1 : Int32) (hs : sX7_yarnOf m z1) : Ct l G mX7_yarnOf 2 0 0 [.ref (gz G + 221), .int z1] h (fun v h1 => v = some (.int (fX7_yarnOf m z1)) ∧ h1 = h) := by
  show Tr l G mX7_yarnOf 2 0 0 0 [(0, .ref (gz G + 221)), (1, .int z1)] [] h _
  unfold sX7_yarnOf at hs
  refine am_aload_n dX7_yarnOf_0 0 rfl ?_
  refine am_iload_n dX7_yarnOf_1 1 rfl ?_
  obtain ⟨i1, hs⟩ := hs
  refine am_callV (As := [.int z1]) (rest := []) dX7_yarnOf_2 kMX7_150 rfl (hmc221 (m := m) hm) rfl rfl (Nat.le_of_ble_eq_true rfl) (d2 := 1) (by decide) (k2 := 0) (Nat.zero_le _) (u2 := 0) (Nat.zero_le _) (Nat.le_of_ble_eq_true rfl) (ctX7_isPiece (m := m) hm z1 i1) (fun v2 h3 q4 => ?_)
  obtain ⟨rfl, rfl⟩ := q4
  refine am_if_eq dX7_yarnOf_5 (by decide : ((5 : Nat) : Int) + (12) = ((17 : Nat) : Int)) (fun c5 => ?_) (fun c5 => ?_)
  · have hs := hs.1 c5
    refine am_bipush (v := (-2)) dX7_yarnOf_17 (by decide) ?_
    rw [show (fX7_yarnOf m z1) = (-2) from ifp c5 (rfl)]
    exact am_ireturn dX7_yarnOf_19 rfl rfl ⟨rfl, rfl⟩
  · have hs := hs.2 c5
    refine am_aload_n dX7_yarnOf_8 0 rfl ?_
    refine am_iload_n dX7_yarnOf_9 1 rfl ?_
    refine am_iconst (v := 0) dX7_yarnOf_10 (by decide) ?_
    obtain ⟨i6, hs⟩ := hs
    refine am_callV (As := [.int z1, .int 0]) (rest := []) dX7_yarnOf_11 kMX7_60 rfl (hmc221 (m := m) hm) rfl rfl (Nat.le_of_ble_eq_true rfl) (d2 := 1) (by decide) (k2 := 0) (Nat.zero_le _) (u2 := 0) (Nat.zero_le _) (Nat.le_of_ble_eq_true rfl) (ctX7_field (m := m) hm z1 0 i6) (fun v7 h8 q9 => ?_)
    obtain ⟨rfl, rfl⟩ := q9
    refine am_goto dX7_yarnOf_14 (by decide : ((14 : Nat) : Int) + (5) = ((19 : Nat) : Int)) ?_
    rw [show (fX7_yarnOf m z1) = (fX7_field m z1 0) from ifn c5 (rfl)]
    exact am_ireturn dX7_yarnOf_19 rfl rfl ⟨rfl, rfl⟩

theorem dX7_kindOf_0 : decode cX7_kindOf 0 = .ok (.aload_n 0, 1) := by decide +kernel
theorem dX7_kindOf_1 : decode cX7_kindOf 1 = .ok (.iload_n 1, 1) := by decide +kernel
theorem dX7_kindOf_2 : decode cX7_kindOf 2 = .ok (.invokevirtual 150, 3) := by decide +kernel
theorem dX7_kindOf_5 : decode cX7_kindOf 5 = .ok (.ifCond .eq 12, 3) := by decide +kernel
theorem dX7_kindOf_8 : decode cX7_kindOf 8 = .ok (.aload_n 0, 1) := by decide +kernel
theorem dX7_kindOf_9 : decode cX7_kindOf 9 = .ok (.iload_n 1, 1) := by decide +kernel
theorem dX7_kindOf_10 : decode cX7_kindOf 10 = .ok (.iconst 1, 1) := by decide +kernel
theorem dX7_kindOf_11 : decode cX7_kindOf 11 = .ok (.invokevirtual 60, 3) := by decide +kernel
theorem dX7_kindOf_14 : decode cX7_kindOf 14 = .ok (.goto 5, 3) := by decide +kernel
theorem dX7_kindOf_17 : decode cX7_kindOf 17 = .ok (.bipush (-2), 2) := by decide +kernel
theorem dX7_kindOf_19 : decode cX7_kindOf 19 = .ok (.ireturn, 1) := by decide +kernel
def fX7_kindOf (m : Md) (z1 : Int32) : Int32 := (if (fX7_isPiece m z1) = 0 then (-2) else (fX7_field m z1 1))
def sX7_kindOf (m : Md) (z1 : Int32) : Prop := ((sX7_isPiece m z1) ∧ (((fX7_isPiece m z1) = 0 → True) ∧ (¬ (fX7_isPiece m z1) = 0 → ((sX7_field m z1 1) ∧ True))))
set_option maxRecDepth 20000 in
theorem ctX7_kindOf {l : Launch} {G : GM} {K : Nat → Option va_E} {h : List va_E} {m : Md} (hm : HM G K h m) (z1 : Int32) (hs : sX7_kindOf m z1) : Ct l G mX7_kindOf 2 0 0 [.ref (gz G + 221), .int z1] h (fun v h1 => v = some (.int (fX7_kindOf m z1)) ∧ h1 = h) := by
  show Tr l G mX7_kindOf 2 0 0 0 [(0, .ref (gz G + 221)), (1, .int z1)] [] h _
  unfold sX7_kindOf at hs
  refine am_aload_n dX7_kindOf_0 0 rfl ?_
  refine am_iload_n dX7_kindOf_1 1 rfl ?_
  obtain ⟨i1, hs⟩ := hs
  refine am_callV (As := [.int z1]) (rest := []) dX7_kindOf_2 kMX7_150 rfl (hmc221 (m := m) hm) rfl rfl (Nat.le_of_ble_eq_true rfl) (d2 := 1) (by decide) (k2 := 0) (Nat.zero_le _) (u2 := 0) (Nat.zero_le _) (Nat.le_of_ble_eq_true rfl) (ctX7_isPiece (m := m) hm z1 i1) (fun v2 h3 q4 => ?_)
  obtain ⟨rfl, rfl⟩ := q4
  refine am_if_eq dX7_kindOf_5 (by decide : ((5 : Nat) : Int) + (12) = ((17 : Nat) : Int)) (fun c5 => ?_) (fun c5 => ?_)
  · have hs := hs.1 c5
    refine am_bipush (v := (-2)) dX7_kindOf_17 (by decide) ?_
    rw [show (fX7_kindOf m z1) = (-2) from ifp c5 (rfl)]
    exact am_ireturn dX7_kindOf_19 rfl rfl ⟨rfl, rfl⟩
  · have hs := hs.2 c5
    refine am_aload_n dX7_kindOf_8 0 rfl ?_
    refine am_iload_n dX7_kindOf_9 1 rfl ?_
    refine am_iconst (v := 1) dX7_kindOf_10 (by decide) ?_
    obtain ⟨i6, hs⟩ := hs
    refine am_callV (As := [.int z1, .int 1]) (rest := []) dX7_kindOf_11 kMX7_60 rfl (hmc221 (m := m) hm) rfl rfl (Nat.le_of_ble_eq_true rfl) (d2 := 1) (by decide) (k2 := 0) (Nat.zero_le _) (u2 := 0) (Nat.zero_le _) (Nat.le_of_ble_eq_true rfl) (ctX7_field (m := m) hm z1 1 i6) (fun v7 h8 q9 => ?_)
    obtain ⟨rfl, rfl⟩ := q9
    refine am_goto dX7_kindOf_14 (by decide : ((14 : Nat) : Int) + (5) = ((19 : Nat) : Int)) ?_
    rw [show (fX7_kindOf m z1) = (fX7_field m z1 1) from ifn c5 (rfl)]
    exact am_ireturn dX7_kindOf_19 rfl rfl ⟨rfl, rfl⟩

theorem dX7_state_0 : decode cX7_state 0 = .ok (.aload_n 0, 1) := by decide +kernel
theorem dX7_state_1 : decode cX7_state 1 = .ok (.iload_n 1, 1) := by decide +kernel
theorem dX7_state_2 : decode cX7_state 2 = .ok (.invokevirtual 150, 3) := by decide +kernel
theorem dX7_state_5 : decode cX7_state 5 = .ok (.ifCond .eq 12, 3) := by decide +kernel
theorem dX7_state_8 : decode cX7_state 8 = .ok (.aload_n 0, 1) := by decide +kernel
theorem dX7_state_9 : decode cX7_state 9 = .ok (.iload_n 1, 1) := by decide +kernel
theorem dX7_state_10 : decode cX7_state 10 = .ok (.iconst 5, 1) := by decide +kernel
theorem dX7_state_11 : decode cX7_state 11 = .ok (.invokevirtual 60, 3) := by decide +kernel
theorem dX7_state_14 : decode cX7_state 14 = .ok (.goto 5, 3) := by decide +kernel
theorem dX7_state_17 : decode cX7_state 17 = .ok (.bipush (-2), 2) := by decide +kernel
theorem dX7_state_19 : decode cX7_state 19 = .ok (.ireturn, 1) := by decide +kernel
def fX7_state (m : Md) (z1 : Int32) : Int32 := (if (fX7_isPiece m z1) = 0 then (-2) else (fX7_field m z1 5))
def sX7_state (m : Md) (z1 : Int32) : Prop := ((sX7_isPiece m z1) ∧ (((fX7_isPiece m z1) = 0 → True) ∧ (¬ (fX7_isPiece m z1) = 0 → ((sX7_field m z1 5) ∧ True))))
set_option maxRecDepth 20000 in
theorem ctX7_state {l : Launch} {G : GM} {K : Nat → Option va_E} {h : List va_E} {m : Md} (hm : HM G K h m) (z1 : Int32) (hs : sX7_state m z1) : Ct l G mX7_state 2 0 0 [.ref (gz G + 221), .int z1] h (fun v h1 => v = some (.int (fX7_state m z1)) ∧ h1 = h) := by
  show Tr l G mX7_state 2 0 0 0 [(0, .ref (gz G + 221)), (1, .int z1)] [] h _
  unfold sX7_state at hs
  refine am_aload_n dX7_state_0 0 rfl ?_
  refine am_iload_n dX7_state_1 1 rfl ?_
  obtain ⟨i1, hs⟩ := hs
  refine am_callV (As := [.int z1]) (rest := []) dX7_state_2 kMX7_150 rfl (hmc221 (m := m) hm) rfl rfl (Nat.le_of_ble_eq_true rfl) (d2 := 1) (by decide) (k2 := 0) (Nat.zero_le _) (u2 := 0) (Nat.zero_le _) (Nat.le_of_ble_eq_true rfl) (ctX7_isPiece (m := m) hm z1 i1) (fun v2 h3 q4 => ?_)
  obtain ⟨rfl, rfl⟩ := q4
  refine am_if_eq dX7_state_5 (by decide : ((5 : Nat) : Int) + (12) = ((17 : Nat) : Int)) (fun c5 => ?_) (fun c5 => ?_)
  · have hs := hs.1 c5
    refine am_bipush (v := (-2)) dX7_state_17 (by decide) ?_
    rw [show (fX7_state m z1) = (-2) from ifp c5 (rfl)]
    exact am_ireturn dX7_state_19 rfl rfl ⟨rfl, rfl⟩
  · have hs := hs.2 c5
    refine am_aload_n dX7_state_8 0 rfl ?_
    refine am_iload_n dX7_state_9 1 rfl ?_
    refine am_iconst (v := 5) dX7_state_10 (by decide) ?_
    obtain ⟨i6, hs⟩ := hs
    refine am_callV (As := [.int z1, .int 5]) (rest := []) dX7_state_11 kMX7_60 rfl (hmc221 (m := m) hm) rfl rfl (Nat.le_of_ble_eq_true rfl) (d2 := 1) (by decide) (k2 := 0) (Nat.zero_le _) (u2 := 0) (Nat.zero_le _) (Nat.le_of_ble_eq_true rfl) (ctX7_field (m := m) hm z1 5 i6) (fun v7 h8 q9 => ?_)
    obtain ⟨rfl, rfl⟩ := q9
    refine am_goto dX7_state_14 (by decide : ((14 : Nat) : Int) + (5) = ((19 : Nat) : Int)) ?_
    rw [show (fX7_state m z1) = (fX7_field m z1 5) from ifn c5 (rfl)]
    exact am_ireturn dX7_state_19 rfl rfl ⟨rfl, rfl⟩

theorem dX7_inState_0 : decode cX7_inState 0 = .ok (.iload_n 1, 1) := by decide +kernel
theorem dX7_inState_1 : decode cX7_inState 1 = .ok (.i2l, 1) := by decide +kernel
theorem dX7_inState_2 : decode cX7_inState 2 = .ok (.lconst 0, 1) := by decide +kernel
theorem dX7_inState_3 : decode cX7_inState 3 = .ok (.ldc2_w 153, 3) := by decide +kernel
theorem dX7_inState_6 : decode cX7_inState 6 = .ok (.invokestatic 56, 3) := by decide +kernel
theorem dX7_inState_9 : decode cX7_inState 9 = .ok (.ifCond .ne 6, 3) := by decide +kernel
theorem dX7_inState_12 : decode cX7_inState 12 = .ok (.bipush (-2), 2) := by decide +kernel
theorem dX7_inState_14 : decode cX7_inState 14 = .ok (.ireturn, 1) := by decide +kernel
theorem dX7_inState_15 : decode cX7_inState 15 = .ok (.iconst 0, 1) := by decide +kernel
theorem dX7_inState_16 : decode cX7_inState 16 = .ok (.istore_n 2, 1) := by decide +kernel
theorem dX7_inState_17 : decode cX7_inState 17 = .ok (.iconst 0, 1) := by decide +kernel
theorem dX7_inState_18 : decode cX7_inState 18 = .ok (.istore_n 3, 1) := by decide +kernel
theorem dX7_inState_19 : decode cX7_inState 19 = .ok (.iload_n 3, 1) := by decide +kernel
theorem dX7_inState_20 : decode cX7_inState 20 = .ok (.aload_n 0, 1) := by decide +kernel
theorem dX7_inState_21 : decode cX7_inState 21 = .ok (.invokevirtual 85, 3) := by decide +kernel
theorem dX7_inState_24 : decode cX7_inState 24 = .ok (.if_icmp .ge 28, 3) := by decide +kernel
theorem dX7_inState_27 : decode cX7_inState 27 = .ok (.iload_n 2, 1) := by decide +kernel
theorem dX7_inState_28 : decode cX7_inState 28 = .ok (.aload_n 0, 1) := by decide +kernel
theorem dX7_inState_29 : decode cX7_inState 29 = .ok (.iload_n 3, 1) := by decide +kernel
theorem dX7_inState_30 : decode cX7_inState 30 = .ok (.iload_n 1, 1) := by decide +kernel
theorem dX7_inState_31 : decode cX7_inState 31 = .ok (.invokevirtual 89, 3) := by decide +kernel
theorem dX7_inState_34 : decode cX7_inState 34 = .ok (.ifCond .eq 9, 3) := by decide +kernel
theorem dX7_inState_37 : decode cX7_inState 37 = .ok (.iconst 1, 1) := by decide +kernel
theorem dX7_inState_38 : decode cX7_inState 38 = .ok (.iload_n 3, 1) := by decide +kernel
theorem dX7_inState_39 : decode cX7_inState 39 = .ok (.ishl, 1) := by decide +kernel
theorem dX7_inState_40 : decode cX7_inState 40 = .ok (.goto 4, 3) := by decide +kernel
theorem dX7_inState_43 : decode cX7_inState 43 = .ok (.iconst 0, 1) := by decide +kernel
theorem dX7_inState_44 : decode cX7_inState 44 = .ok (.ior, 1) := by decide +kernel
theorem dX7_inState_45 : decode cX7_inState 45 = .ok (.istore_n 2, 1) := by decide +kernel
theorem dX7_inState_46 : decode cX7_inState 46 = .ok (.iinc 3 1, 3) := by decide +kernel
theorem dX7_inState_49 : decode cX7_inState 49 = .ok (.goto (-30), 3) := by decide +kernel
theorem dX7_inState_52 : decode cX7_inState 52 = .ok (.iload_n 2, 1) := by decide +kernel
theorem dX7_inState_53 : decode cX7_inState 53 = .ok (.ireturn, 1) := by decide +kernel
def fX7_inState_19 (z1 : Int32)  (m : Md) : Nat → Int32 → Int32 → Int32 × Int32
  | 0, x3, x2 => (x3, x2)
  | fu + 1, x3, x2 => (if (fX7_count m ) ≤ x3 then (x3, x2) else (if (fX7_isIn m x3 z1) = 0 then (fX7_inState_19 z1  m fu (x3 + 1) (x2 ||| 0) ) else (fX7_inState_19 z1  m fu (x3 + 1) (x2 ||| ((1 : Int32) <<< (x3 &&& 31))) )))
def sX7_inState_19 (z1 : Int32)  (m : Md) : Nat → Int32 → Int32 → Prop
  | 0, _, _ => True
  | fu + 1, x3, x2 => (((fX7_count m ) ≤ x3 → True) ∧ (¬ (fX7_count m ) ≤ x3 → ((sX7_isIn m x3 z1) ∧ (((fX7_isIn m x3 z1) = 0 → (sX7_inState_19 z1  m fu (x3 + 1) (x2 ||| 0) )) ∧ (¬ (fX7_isIn m x3 z1) = 0 → (sX7_inState_19 z1  m fu (x3 + 1) (x2 ||| ((1 : Int32) <<< (x3 &&& 31))) ))))))
set_option maxRecDepth 20000 in
theorem wX7_inState_19 {l : Launch} {G : GM} {K : Nat → Option va_E} (z1 : Int32)   {h : List va_E} {m : Md} (hm : HM G K h m) {Q : Option Value → List va_E → Prop} : ∀ (fu : Nat) (x3 x2 : Int32) (iv : ivU (fX7_count m ) x3 fu) (hs : sX7_inState_19 z1  m fu x3 x2 ) (kx : ∀ (r : Int32 × Int32), (fX7_inState_19 z1  m fu x3 x2 ) = r → Tr l G mX7_inState 3 0 0 52 [(3, .int r.1), (2, .int r.2), (0, .ref (gz G + 221)), (1, .int z1)] [] h Q), Tr l G mX7_inState 3 0 0 19 [(3, .int x3), (2, .int x2), (0, .ref (gz G + 221)), (1, .int z1)] [] h Q := by
  intro fu
  induction fu with
  | zero => intro x3 x2 iv; intros; exact absurd iv ivU_0
  | succ fu ih =>
    intro x3 x2 iv hs    kx
    rw [sX7_inState_19] at hs
    refine am_iload_n dX7_inState_19 0 rfl ?_
    refine am_aload_n dX7_inState_20 2 rfl ?_
    refine am_callV (As := []) (rest := [.int x3]) dX7_inState_21 kMX7_85 rfl (hmc221 (m := m) hm) rfl rfl (Nat.le_of_ble_eq_true rfl) (d2 := 0) (by decide) (k2 := 0) (Nat.zero_le _) (u2 := 0) (Nat.zero_le _) (Nat.le_of_ble_eq_true rfl) (ctX7_count (m := m) hm  ) (fun v5 h6 q7 => ?_)
    obtain ⟨rfl, rfl⟩ := q7
    refine am_icmp_ge dX7_inState_24 (by decide : ((24 : Nat) : Int) + (28) = ((52 : Nat) : Int)) (fun c8 => ?_) (fun c8 => ?_)
    · have hs := hs.1 c8
      exact kx _ (ifp c8 (rfl))
    · have hs := hs.2 c8
      refine am_iload_n dX7_inState_27 1 rfl ?_
      refine am_aload_n dX7_inState_28 2 rfl ?_
      refine am_iload_n dX7_inState_29 0 rfl ?_
      refine am_iload_n dX7_inState_30 3 rfl ?_
      obtain ⟨i9, hs⟩ := hs
      refine am_callV (As := [.int x3, .int z1]) (rest := [.int x2]) dX7_inState_31 kMX7_89 rfl (hmc221 (m := m) hm) rfl rfl (Nat.le_of_ble_eq_true rfl) (d2 := 2) (by decide) (k2 := 0) (Nat.zero_le _) (u2 := 0) (Nat.zero_le _) (Nat.le_of_ble_eq_true rfl) (ctX7_isIn (m := m) hm x3 z1 i9) (fun v10 h11 q12 => ?_)
      obtain ⟨rfl, rfl⟩ := q12
      refine am_if_eq dX7_inState_34 (by decide : ((34 : Nat) : Int) + (9) = ((43 : Nat) : Int)) (fun c13 => ?_) (fun c13 => ?_)
      · have hs := hs.1 c13
        refine am_iconst (v := 0) dX7_inState_43 (by decide) ?_
        refine am_ior dX7_inState_44 ?_
        refine am_istore_n dX7_inState_45 (by decide) (lv' := [(2, .int (x2 ||| 0)), (3, .int x3), (0, .ref (gz G + 221)), (1, .int z1)]) rfl ?_
        refine am_iinc (v := (x3 + 1)) dX7_inState_46 1 rfl rfl (by decide) (lv' := [(3, .int (x3 + 1)), (2, .int (x2 ||| 0)), (0, .ref (gz G + 221)), (1, .int z1)]) rfl ?_
        refine am_goto dX7_inState_49 (by decide : ((49 : Nat) : Int) + (-30) = ((19 : Nat) : Int)) ?_
        exact ih (x3 + 1) (x2 ||| 0) (ivU_s c8 iv) hs (fun r e => kx r (Eq.trans (ifn c8 (ifp c13 (rfl))) e))
      · have hs := hs.2 c13
        refine am_iconst (v := 1) dX7_inState_37 (by decide) ?_
        refine am_iload_n dX7_inState_38 0 rfl ?_
        refine am_ishl dX7_inState_39 ?_
        refine am_goto dX7_inState_40 (by decide : ((40 : Nat) : Int) + (4) = ((44 : Nat) : Int)) ?_
        refine am_ior dX7_inState_44 ?_
        refine am_istore_n dX7_inState_45 (by decide) (lv' := [(2, .int (x2 ||| ((1 : Int32) <<< (x3 &&& 31)))), (3, .int x3), (0, .ref (gz G + 221)), (1, .int z1)]) rfl ?_
        refine am_iinc (v := (x3 + 1)) dX7_inState_46 1 rfl rfl (by decide) (lv' := [(3, .int (x3 + 1)), (2, .int (x2 ||| ((1 : Int32) <<< (x3 &&& 31)))), (0, .ref (gz G + 221)), (1, .int z1)]) rfl ?_
        refine am_goto dX7_inState_49 (by decide : ((49 : Nat) : Int) + (-30) = ((19 : Nat) : Int)) ?_
        exact ih (x3 + 1) (x2 ||| ((1 : Int32) <<< (x3 &&& 31))) (ivU_s c8 iv) hs (fun r e => kx r (Eq.trans (ifn c8 (ifn c13 (rfl))) e))
def fX7_inState (m : Md) (z1 : Int32) : Int32 := (if (fX7_in (z1.toInt64) 0 3) = 0 then (-2) else (bnd (fX7_inState_19 z1  m (fuU (fX7_count m ) 0) 0 0 ) (fun r15 => r15.2)))
def sX7_inState (m : Md) (z1 : Int32) : Prop := (((fX7_in (z1.toInt64) 0 3) = 0 → True) ∧ (¬ (fX7_in (z1.toInt64) 0 3) = 0 → ((sX7_inState_19 z1  m (fuU (fX7_count m ) 0) 0 0 ) ∧ bnd (fX7_inState_19 z1  m (fuU (fX7_count m ) 0) 0 0 ) (fun r15 => True))))
set_option maxRecDepth 20000 in
theorem ctX7_inState {l : Launch} {G : GM} {K : Nat → Option va_E} {h : List va_E} {m : Md} (hm : HM G K h m) (z1 : Int32) (hs : sX7_inState m z1) : Ct l G mX7_inState 3 0 0 [.ref (gz G + 221), .int z1] h (fun v h1 => v = some (.int (fX7_inState m z1)) ∧ h1 = h) := by
  show Tr l G mX7_inState 3 0 0 0 [(0, .ref (gz G + 221)), (1, .int z1)] [] h _
  unfold sX7_inState at hs
  refine am_iload_n dX7_inState_0 1 rfl ?_
  refine am_i2l (v := z1.toInt64) dX7_inState_1 rfl ?_
  refine am_lconst (v := 0) dX7_inState_2 (by decide) ?_
  refine am_ldc2 (v := 3) dX7_inState_3 kKX7_153 ?_
  refine am_callS (As := [.long (z1.toInt64), .long 0, .long 3]) (rest := []) dX7_inState_6 kMX7_56 rfl  rfl (Nat.le_of_ble_eq_true rfl) (d2 := 0) (by decide) (k2 := 0) (Nat.zero_le _) (u2 := 0) (Nat.zero_le _) (Nat.le_of_ble_eq_true rfl) (ctX7_in  (z1.toInt64) 0 3 ) (fun v1 h2 q3 => ?_)
  obtain ⟨rfl, rfl⟩ := q3
  refine am_if_ne dX7_inState_9 (by decide : ((9 : Nat) : Int) + (6) = ((15 : Nat) : Int)) (fun c4 => ?_) (fun c4 => ?_)
  · have hs := hs.2 c4
    refine am_iconst (v := 0) dX7_inState_15 (by decide) ?_
    refine am_istore_n dX7_inState_16 (by decide) (lv' := [(2, .int 0), (0, .ref (gz G + 221)), (1, .int z1)]) rfl ?_
    refine am_iconst (v := 0) dX7_inState_17 (by decide) ?_
    refine am_istore_n dX7_inState_18 (by decide) (lv' := [(3, .int 0), (2, .int 0), (0, .ref (gz G + 221)), (1, .int z1)]) rfl ?_
    obtain ⟨i14, hs⟩ := hs
    refine wX7_inState_19 z1   hm (fuU (fX7_count m ) 0) 0 0 ivU_i i14 (fun r15 e16 => ?_)
    have hs := bnd_p e16 hs
    refine am_iload_n dX7_inState_52 1 rfl ?_
    rw [show (fX7_inState m z1) = r15.2 from ifn c4 (bnd_eq e16 (rfl))]
    exact am_ireturn dX7_inState_53 rfl rfl ⟨rfl, rfl⟩
  · have hs := hs.1 c4
    refine am_bipush (v := (-2)) dX7_inState_12 (by decide) ?_
    rw [show (fX7_inState m z1) = (-2) from ifp c4 (rfl)]
    exact am_ireturn dX7_inState_14 rfl rfl ⟨rfl, rfl⟩

theorem dX7_stretchLimit_0 : decode cX7_stretchLimit 0 = .ok (.aload_n 0, 1) := by decide +kernel
theorem dX7_stretchLimit_1 : decode cX7_stretchLimit 1 = .ok (.iload_n 1, 1) := by decide +kernel
theorem dX7_stretchLimit_2 : decode cX7_stretchLimit 2 = .ok (.invokevirtual 150, 3) := by decide +kernel
theorem dX7_stretchLimit_5 : decode cX7_stretchLimit 5 = .ok (.ifCond .eq 11, 3) := by decide +kernel
theorem dX7_stretchLimit_8 : decode cX7_stretchLimit 8 = .ok (.aload_n 0, 1) := by decide +kernel
theorem dX7_stretchLimit_9 : decode cX7_stretchLimit 9 = .ok (.iload_n 1, 1) := by decide +kernel
theorem dX7_stretchLimit_10 : decode cX7_stretchLimit 10 = .ok (.invokevirtual 68, 3) := by decide +kernel
theorem dX7_stretchLimit_13 : decode cX7_stretchLimit 13 = .ok (.goto 5, 3) := by decide +kernel
theorem dX7_stretchLimit_16 : decode cX7_stretchLimit 16 = .ok (.bipush (-2), 2) := by decide +kernel
theorem dX7_stretchLimit_18 : decode cX7_stretchLimit 18 = .ok (.ireturn, 1) := by decide +kernel
def fX7_stretchLimit (m : Md) (z1 : Int32) : Int32 := (if (fX7_isPiece m z1) = 0 then (-2) else (fX7_limitOf m z1))
def sX7_stretchLimit (m : Md) (z1 : Int32) : Prop := ((sX7_isPiece m z1) ∧ (((fX7_isPiece m z1) = 0 → True) ∧ (¬ (fX7_isPiece m z1) = 0 → ((sX7_limitOf m z1) ∧ True))))
set_option maxRecDepth 20000 in
theorem ctX7_stretchLimit {l : Launch} {G : GM} {K : Nat → Option va_E} {h : List va_E} {m : Md} (hm : HM G K h m) (z1 : Int32) (hs : sX7_stretchLimit m z1) : Ct l G mX7_stretchLimit 3 0 0 [.ref (gz G + 221), .int z1] h (fun v h1 => v = some (.int (fX7_stretchLimit m z1)) ∧ h1 = h) := by
  show Tr l G mX7_stretchLimit 3 0 0 0 [(0, .ref (gz G + 221)), (1, .int z1)] [] h _
  unfold sX7_stretchLimit at hs
  refine am_aload_n dX7_stretchLimit_0 0 rfl ?_
  refine am_iload_n dX7_stretchLimit_1 1 rfl ?_
  obtain ⟨i1, hs⟩ := hs
  refine am_callV (As := [.int z1]) (rest := []) dX7_stretchLimit_2 kMX7_150 rfl (hmc221 (m := m) hm) rfl rfl (Nat.le_of_ble_eq_true rfl) (d2 := 1) (by decide) (k2 := 0) (Nat.zero_le _) (u2 := 0) (Nat.zero_le _) (Nat.le_of_ble_eq_true rfl) (ctX7_isPiece (m := m) hm z1 i1) (fun v2 h3 q4 => ?_)
  obtain ⟨rfl, rfl⟩ := q4
  refine am_if_eq dX7_stretchLimit_5 (by decide : ((5 : Nat) : Int) + (11) = ((16 : Nat) : Int)) (fun c5 => ?_) (fun c5 => ?_)
  · have hs := hs.1 c5
    refine am_bipush (v := (-2)) dX7_stretchLimit_16 (by decide) ?_
    rw [show (fX7_stretchLimit m z1) = (-2) from ifp c5 (rfl)]
    exact am_ireturn dX7_stretchLimit_18 rfl rfl ⟨rfl, rfl⟩
  · have hs := hs.2 c5
    refine am_aload_n dX7_stretchLimit_8 0 rfl ?_
    refine am_iload_n dX7_stretchLimit_9 1 rfl ?_
    obtain ⟨i6, hs⟩ := hs
    refine am_callV (As := [.int z1]) (rest := []) dX7_stretchLimit_10 kMX7_68 rfl (hmc221 (m := m) hm) rfl rfl (Nat.le_of_ble_eq_true rfl) (d2 := 2) (by decide) (k2 := 0) (Nat.zero_le _) (u2 := 0) (Nat.zero_le _) (Nat.le_of_ble_eq_true rfl) (ctX7_limitOf (m := m) hm z1 i6) (fun v7 h8 q9 => ?_)
    obtain ⟨rfl, rfl⟩ := q9
    refine am_goto dX7_stretchLimit_13 (by decide : ((13 : Nat) : Int) + (5) = ((18 : Nat) : Int)) ?_
    rw [show (fX7_stretchLimit m z1) = (fX7_limitOf m z1) from ifn c5 (rfl)]
    exact am_ireturn dX7_stretchLimit_18 rfl rfl ⟨rfl, rfl⟩

theorem dX7_longestShape_0 : decode cX7_longestShape 0 = .ok (.aload_n 0, 1) := by decide +kernel
theorem dX7_longestShape_1 : decode cX7_longestShape 1 = .ok (.iload_n 1, 1) := by decide +kernel
theorem dX7_longestShape_2 : decode cX7_longestShape 2 = .ok (.invokevirtual 150, 3) := by decide +kernel
theorem dX7_longestShape_5 : decode cX7_longestShape 5 = .ok (.ifCond .eq 11, 3) := by decide +kernel
theorem dX7_longestShape_8 : decode cX7_longestShape 8 = .ok (.aload_n 0, 1) := by decide +kernel
theorem dX7_longestShape_9 : decode cX7_longestShape 9 = .ok (.iload_n 1, 1) := by decide +kernel
theorem dX7_longestShape_10 : decode cX7_longestShape 10 = .ok (.invokevirtual 75, 3) := by decide +kernel
theorem dX7_longestShape_13 : decode cX7_longestShape 13 = .ok (.goto 5, 3) := by decide +kernel
theorem dX7_longestShape_16 : decode cX7_longestShape 16 = .ok (.bipush (-2), 2) := by decide +kernel
theorem dX7_longestShape_18 : decode cX7_longestShape 18 = .ok (.ireturn, 1) := by decide +kernel
def fX7_longestShape (m : Md) (z1 : Int32) : Int32 := (if (fX7_isPiece m z1) = 0 then (-2) else (fX7_longestOf m z1))
def sX7_longestShape (m : Md) (z1 : Int32) : Prop := ((sX7_isPiece m z1) ∧ (((fX7_isPiece m z1) = 0 → True) ∧ (¬ (fX7_isPiece m z1) = 0 → ((sX7_longestOf m z1) ∧ True))))
set_option maxRecDepth 20000 in
theorem ctX7_longestShape {l : Launch} {G : GM} {K : Nat → Option va_E} {h : List va_E} {m : Md} (hm : HM G K h m) (z1 : Int32) (hs : sX7_longestShape m z1) : Ct l G mX7_longestShape 4 0 0 [.ref (gz G + 221), .int z1] h (fun v h1 => v = some (.int (fX7_longestShape m z1)) ∧ h1 = h) := by
  show Tr l G mX7_longestShape 4 0 0 0 [(0, .ref (gz G + 221)), (1, .int z1)] [] h _
  unfold sX7_longestShape at hs
  refine am_aload_n dX7_longestShape_0 0 rfl ?_
  refine am_iload_n dX7_longestShape_1 1 rfl ?_
  obtain ⟨i1, hs⟩ := hs
  refine am_callV (As := [.int z1]) (rest := []) dX7_longestShape_2 kMX7_150 rfl (hmc221 (m := m) hm) rfl rfl (Nat.le_of_ble_eq_true rfl) (d2 := 1) (by decide) (k2 := 0) (Nat.zero_le _) (u2 := 0) (Nat.zero_le _) (Nat.le_of_ble_eq_true rfl) (ctX7_isPiece (m := m) hm z1 i1) (fun v2 h3 q4 => ?_)
  obtain ⟨rfl, rfl⟩ := q4
  refine am_if_eq dX7_longestShape_5 (by decide : ((5 : Nat) : Int) + (11) = ((16 : Nat) : Int)) (fun c5 => ?_) (fun c5 => ?_)
  · have hs := hs.1 c5
    refine am_bipush (v := (-2)) dX7_longestShape_16 (by decide) ?_
    rw [show (fX7_longestShape m z1) = (-2) from ifp c5 (rfl)]
    exact am_ireturn dX7_longestShape_18 rfl rfl ⟨rfl, rfl⟩
  · have hs := hs.2 c5
    refine am_aload_n dX7_longestShape_8 0 rfl ?_
    refine am_iload_n dX7_longestShape_9 1 rfl ?_
    obtain ⟨i6, hs⟩ := hs
    refine am_callV (As := [.int z1]) (rest := []) dX7_longestShape_10 kMX7_75 rfl (hmc221 (m := m) hm) rfl rfl (Nat.le_of_ble_eq_true rfl) (d2 := 3) (by decide) (k2 := 0) (Nat.zero_le _) (u2 := 0) (Nat.zero_le _) (Nat.le_of_ble_eq_true rfl) (ctX7_longestOf (m := m) hm z1 i6) (fun v7 h8 q9 => ?_)
    obtain ⟨rfl, rfl⟩ := q9
    refine am_goto dX7_longestShape_13 (by decide : ((13 : Nat) : Int) + (5) = ((18 : Nat) : Int)) ?_
    rw [show (fX7_longestShape m z1) = (fX7_longestOf m z1) from ifn c5 (rfl)]
    exact am_ireturn dX7_longestShape_18 rfl rfl ⟨rfl, rfl⟩

theorem dX7_isDone_0 : decode cX7_isDone 0 = .ok (.aload_n 0, 1) := by decide +kernel
theorem dX7_isDone_1 : decode cX7_isDone 1 = .ok (.iload_n 1, 1) := by decide +kernel
theorem dX7_isDone_2 : decode cX7_isDone 2 = .ok (.iconst 2, 1) := by decide +kernel
theorem dX7_isDone_3 : decode cX7_isDone 3 = .ok (.invokevirtual 89, 3) := by decide +kernel
theorem dX7_isDone_6 : decode cX7_isDone 6 = .ok (.ifCond .ne 12, 3) := by decide +kernel
theorem dX7_isDone_9 : decode cX7_isDone 9 = .ok (.aload_n 0, 1) := by decide +kernel
theorem dX7_isDone_10 : decode cX7_isDone 10 = .ok (.iload_n 1, 1) := by decide +kernel
theorem dX7_isDone_11 : decode cX7_isDone 11 = .ok (.iconst 3, 1) := by decide +kernel
theorem dX7_isDone_12 : decode cX7_isDone 12 = .ok (.invokevirtual 89, 3) := by decide +kernel
theorem dX7_isDone_15 : decode cX7_isDone 15 = .ok (.ifCond .eq 7, 3) := by decide +kernel
theorem dX7_isDone_18 : decode cX7_isDone 18 = .ok (.iconst 1, 1) := by decide +kernel
theorem dX7_isDone_19 : decode cX7_isDone 19 = .ok (.goto 4, 3) := by decide +kernel
theorem dX7_isDone_22 : decode cX7_isDone 22 = .ok (.iconst 0, 1) := by decide +kernel
theorem dX7_isDone_23 : decode cX7_isDone 23 = .ok (.ireturn, 1) := by decide +kernel
def fX7_isDone (m : Md) (z1 : Int32) : Int32 := (if (fX7_isIn m z1 2) = 0 then (if (fX7_isIn m z1 3) = 0 then 0 else 1) else 1)
def sX7_isDone (m : Md) (z1 : Int32) : Prop := ((sX7_isIn m z1 2) ∧ (((fX7_isIn m z1 2) = 0 → ((sX7_isIn m z1 3) ∧ (((fX7_isIn m z1 3) = 0 → True) ∧ (¬ (fX7_isIn m z1 3) = 0 → True)))) ∧ (¬ (fX7_isIn m z1 2) = 0 → True)))
set_option maxRecDepth 20000 in
theorem ctX7_isDone {l : Launch} {G : GM} {K : Nat → Option va_E} {h : List va_E} {m : Md} (hm : HM G K h m) (z1 : Int32) (hs : sX7_isDone m z1) : Ct l G mX7_isDone 3 0 0 [.ref (gz G + 221), .int z1] h (fun v h1 => v = some (.int (fX7_isDone m z1)) ∧ h1 = h) := by
  show Tr l G mX7_isDone 3 0 0 0 [(0, .ref (gz G + 221)), (1, .int z1)] [] h _
  unfold sX7_isDone at hs
  refine am_aload_n dX7_isDone_0 0 rfl ?_
  refine am_iload_n dX7_isDone_1 1 rfl ?_
  refine am_iconst (v := 2) dX7_isDone_2 (by decide) ?_
  obtain ⟨i1, hs⟩ := hs
  refine am_callV (As := [.int z1, .int 2]) (rest := []) dX7_isDone_3 kMX7_89 rfl (hmc221 (m := m) hm) rfl rfl (Nat.le_of_ble_eq_true rfl) (d2 := 2) (by decide) (k2 := 0) (Nat.zero_le _) (u2 := 0) (Nat.zero_le _) (Nat.le_of_ble_eq_true rfl) (ctX7_isIn (m := m) hm z1 2 i1) (fun v2 h3 q4 => ?_)
  obtain ⟨rfl, rfl⟩ := q4
  refine am_if_ne dX7_isDone_6 (by decide : ((6 : Nat) : Int) + (12) = ((18 : Nat) : Int)) (fun c5 => ?_) (fun c5 => ?_)
  · have hs := hs.2 c5
    refine am_iconst (v := 1) dX7_isDone_18 (by decide) ?_
    refine am_goto dX7_isDone_19 (by decide : ((19 : Nat) : Int) + (4) = ((23 : Nat) : Int)) ?_
    rw [show (fX7_isDone m z1) = 1 from ifn c5 (rfl)]
    exact am_ireturn dX7_isDone_23 rfl rfl ⟨rfl, rfl⟩
  · have hs := hs.1 c5
    refine am_aload_n dX7_isDone_9 0 rfl ?_
    refine am_iload_n dX7_isDone_10 1 rfl ?_
    refine am_iconst (v := 3) dX7_isDone_11 (by decide) ?_
    obtain ⟨i6, hs⟩ := hs
    refine am_callV (As := [.int z1, .int 3]) (rest := []) dX7_isDone_12 kMX7_89 rfl (hmc221 (m := m) hm) rfl rfl (Nat.le_of_ble_eq_true rfl) (d2 := 2) (by decide) (k2 := 0) (Nat.zero_le _) (u2 := 0) (Nat.zero_le _) (Nat.le_of_ble_eq_true rfl) (ctX7_isIn (m := m) hm z1 3 i6) (fun v7 h8 q9 => ?_)
    obtain ⟨rfl, rfl⟩ := q9
    refine am_if_eq dX7_isDone_15 (by decide : ((15 : Nat) : Int) + (7) = ((22 : Nat) : Int)) (fun c10 => ?_) (fun c10 => ?_)
    · have hs := hs.1 c10
      refine am_iconst (v := 0) dX7_isDone_22 (by decide) ?_
      rw [show (fX7_isDone m z1) = 0 from ifp c5 (ifp c10 (rfl))]
      exact am_ireturn dX7_isDone_23 rfl rfl ⟨rfl, rfl⟩
    · have hs := hs.2 c10
      refine am_iconst (v := 1) dX7_isDone_18 (by decide) ?_
      refine am_goto dX7_isDone_19 (by decide : ((19 : Nat) : Int) + (4) = ((23 : Nat) : Int)) ?_
      rw [show (fX7_isDone m z1) = 1 from ifp c5 (ifn c10 (rfl))]
      exact am_ireturn dX7_isDone_23 rfl rfl ⟨rfl, rfl⟩

theorem dX7_ifBoarded_0 : decode cX7_ifBoarded 0 = .ok (.aload_n 0, 1) := by decide +kernel
theorem dX7_ifBoarded_1 : decode cX7_ifBoarded 1 = .ok (.iload_n 1, 1) := by decide +kernel
theorem dX7_ifBoarded_2 : decode cX7_ifBoarded 2 = .ok (.invokevirtual 150, 3) := by decide +kernel
theorem dX7_ifBoarded_5 : decode cX7_ifBoarded 5 = .ok (.ifCond .eq 11, 3) := by decide +kernel
theorem dX7_ifBoarded_8 : decode cX7_ifBoarded 8 = .ok (.aload_n 0, 1) := by decide +kernel
theorem dX7_ifBoarded_9 : decode cX7_ifBoarded 9 = .ok (.iload_n 2, 1) := by decide +kernel
theorem dX7_ifBoarded_10 : decode cX7_ifBoarded 10 = .ok (.invokevirtual 155, 3) := by decide +kernel
theorem dX7_ifBoarded_13 : decode cX7_ifBoarded 13 = .ok (.ifCond .ne 6, 3) := by decide +kernel
theorem dX7_ifBoarded_16 : decode cX7_ifBoarded 16 = .ok (.bipush (-2), 2) := by decide +kernel
theorem dX7_ifBoarded_18 : decode cX7_ifBoarded 18 = .ok (.ireturn, 1) := by decide +kernel
theorem dX7_ifBoarded_19 : decode cX7_ifBoarded 19 = .ok (.aload_n 0, 1) := by decide +kernel
theorem dX7_ifBoarded_20 : decode cX7_ifBoarded 20 = .ok (.iload_n 1, 1) := by decide +kernel
theorem dX7_ifBoarded_21 : decode cX7_ifBoarded 21 = .ok (.invokevirtual 158, 3) := by decide +kernel
theorem dX7_ifBoarded_24 : decode cX7_ifBoarded 24 = .ok (.ifCond .eq 6, 3) := by decide +kernel
theorem dX7_ifBoarded_27 : decode cX7_ifBoarded 27 = .ok (.bipush (-6), 2) := by decide +kernel
theorem dX7_ifBoarded_29 : decode cX7_ifBoarded 29 = .ok (.ireturn, 1) := by decide +kernel
theorem dX7_ifBoarded_30 : decode cX7_ifBoarded 30 = .ok (.aload_n 0, 1) := by decide +kernel
theorem dX7_ifBoarded_31 : decode cX7_ifBoarded 31 = .ok (.iload_n 1, 1) := by decide +kernel
theorem dX7_ifBoarded_32 : decode cX7_ifBoarded 32 = .ok (.iload_n 2, 1) := by decide +kernel
theorem dX7_ifBoarded_33 : decode cX7_ifBoarded 33 = .ok (.invokevirtual 78, 3) := by decide +kernel
theorem dX7_ifBoarded_36 : decode cX7_ifBoarded 36 = .ok (.ifCond .eq 7, 3) := by decide +kernel
theorem dX7_ifBoarded_39 : decode cX7_ifBoarded 39 = .ok (.iconst (-1), 1) := by decide +kernel
theorem dX7_ifBoarded_40 : decode cX7_ifBoarded 40 = .ok (.goto 9, 3) := by decide +kernel
theorem dX7_ifBoarded_43 : decode cX7_ifBoarded 43 = .ok (.aload_n 0, 1) := by decide +kernel
theorem dX7_ifBoarded_44 : decode cX7_ifBoarded 44 = .ok (.iload_n 1, 1) := by decide +kernel
theorem dX7_ifBoarded_45 : decode cX7_ifBoarded 45 = .ok (.iload_n 2, 1) := by decide +kernel
theorem dX7_ifBoarded_46 : decode cX7_ifBoarded 46 = .ok (.invokevirtual 82, 3) := by decide +kernel
theorem dX7_ifBoarded_49 : decode cX7_ifBoarded 49 = .ok (.ireturn, 1) := by decide +kernel
def fX7_ifBoarded (m : Md) (z1 : Int32) (z2 : Int32) : Int32 := (if (fX7_isPiece m z1) = 0 then (-2) else (if (fX7_isShape m z2) = 0 then (-2) else (if (fX7_isDone m z1) = 0 then (if (fX7_wouldTear m z1 z2) = 0 then (fX7_lengthOn m z1 z2) else (-1)) else (-6))))
def sX7_ifBoarded (m : Md) (z1 : Int32) (z2 : Int32) : Prop := ((sX7_isPiece m z1) ∧ (((fX7_isPiece m z1) = 0 → True) ∧ (¬ (fX7_isPiece m z1) = 0 → ((sX7_isShape m z2) ∧ (((fX7_isShape m z2) = 0 → True) ∧ (¬ (fX7_isShape m z2) = 0 → ((sX7_isDone m z1) ∧ (((fX7_isDone m z1) = 0 → ((sX7_wouldTear m z1 z2) ∧ (((fX7_wouldTear m z1 z2) = 0 → ((sX7_lengthOn m z1 z2) ∧ True)) ∧ (¬ (fX7_wouldTear m z1 z2) = 0 → True)))) ∧ (¬ (fX7_isDone m z1) = 0 → True)))))))))
set_option maxRecDepth 20000 in
theorem ctX7_ifBoarded {l : Launch} {G : GM} {K : Nat → Option va_E} {h : List va_E} {m : Md} (hm : HM G K h m) (z1 : Int32) (z2 : Int32) (hs : sX7_ifBoarded m z1 z2) : Ct l G mX7_ifBoarded 5 0 0 [.ref (gz G + 221), .int z1, .int z2] h (fun v h1 => v = some (.int (fX7_ifBoarded m z1 z2)) ∧ h1 = h) := by
  show Tr l G mX7_ifBoarded 5 0 0 0 [(0, .ref (gz G + 221)), (1, .int z1), (2, .int z2)] [] h _
  unfold sX7_ifBoarded at hs
  refine am_aload_n dX7_ifBoarded_0 0 rfl ?_
  refine am_iload_n dX7_ifBoarded_1 1 rfl ?_
  obtain ⟨i1, hs⟩ := hs
  refine am_callV (As := [.int z1]) (rest := []) dX7_ifBoarded_2 kMX7_150 rfl (hmc221 (m := m) hm) rfl rfl (Nat.le_of_ble_eq_true rfl) (d2 := 1) (by decide) (k2 := 0) (Nat.zero_le _) (u2 := 0) (Nat.zero_le _) (Nat.le_of_ble_eq_true rfl) (ctX7_isPiece (m := m) hm z1 i1) (fun v2 h3 q4 => ?_)
  obtain ⟨rfl, rfl⟩ := q4
  refine am_if_eq dX7_ifBoarded_5 (by decide : ((5 : Nat) : Int) + (11) = ((16 : Nat) : Int)) (fun c5 => ?_) (fun c5 => ?_)
  · have hs := hs.1 c5
    refine am_bipush (v := (-2)) dX7_ifBoarded_16 (by decide) ?_
    rw [show (fX7_ifBoarded m z1 z2) = (-2) from ifp c5 (rfl)]
    exact am_ireturn dX7_ifBoarded_18 rfl rfl ⟨rfl, rfl⟩
  · have hs := hs.2 c5
    refine am_aload_n dX7_ifBoarded_8 0 rfl ?_
    refine am_iload_n dX7_ifBoarded_9 2 rfl ?_
    obtain ⟨i6, hs⟩ := hs
    refine am_callV (As := [.int z2]) (rest := []) dX7_ifBoarded_10 kMX7_155 rfl (hmc221 (m := m) hm) rfl rfl (Nat.le_of_ble_eq_true rfl) (d2 := 1) (by decide) (k2 := 0) (Nat.zero_le _) (u2 := 0) (Nat.zero_le _) (Nat.le_of_ble_eq_true rfl) (ctX7_isShape (m := m) hm z2 i6) (fun v7 h8 q9 => ?_)
    obtain ⟨rfl, rfl⟩ := q9
    refine am_if_ne dX7_ifBoarded_13 (by decide : ((13 : Nat) : Int) + (6) = ((19 : Nat) : Int)) (fun c10 => ?_) (fun c10 => ?_)
    · have hs := hs.2 c10
      refine am_aload_n dX7_ifBoarded_19 0 rfl ?_
      refine am_iload_n dX7_ifBoarded_20 1 rfl ?_
      obtain ⟨i11, hs⟩ := hs
      refine am_callV (As := [.int z1]) (rest := []) dX7_ifBoarded_21 kMX7_158 rfl (hmc221 (m := m) hm) rfl rfl (Nat.le_of_ble_eq_true rfl) (d2 := 3) (by decide) (k2 := 0) (Nat.zero_le _) (u2 := 0) (Nat.zero_le _) (Nat.le_of_ble_eq_true rfl) (ctX7_isDone (m := m) hm z1 i11) (fun v12 h13 q14 => ?_)
      obtain ⟨rfl, rfl⟩ := q14
      refine am_if_eq dX7_ifBoarded_24 (by decide : ((24 : Nat) : Int) + (6) = ((30 : Nat) : Int)) (fun c15 => ?_) (fun c15 => ?_)
      · have hs := hs.1 c15
        refine am_aload_n dX7_ifBoarded_30 0 rfl ?_
        refine am_iload_n dX7_ifBoarded_31 1 rfl ?_
        refine am_iload_n dX7_ifBoarded_32 2 rfl ?_
        obtain ⟨i16, hs⟩ := hs
        refine am_callV (As := [.int z1, .int z2]) (rest := []) dX7_ifBoarded_33 kMX7_78 rfl (hmc221 (m := m) hm) rfl rfl (Nat.le_of_ble_eq_true rfl) (d2 := 4) (by decide) (k2 := 0) (Nat.zero_le _) (u2 := 0) (Nat.zero_le _) (Nat.le_of_ble_eq_true rfl) (ctX7_wouldTear (m := m) hm z1 z2 i16) (fun v17 h18 q19 => ?_)
        obtain ⟨rfl, rfl⟩ := q19
        refine am_if_eq dX7_ifBoarded_36 (by decide : ((36 : Nat) : Int) + (7) = ((43 : Nat) : Int)) (fun c20 => ?_) (fun c20 => ?_)
        · have hs := hs.1 c20
          refine am_aload_n dX7_ifBoarded_43 0 rfl ?_
          refine am_iload_n dX7_ifBoarded_44 1 rfl ?_
          refine am_iload_n dX7_ifBoarded_45 2 rfl ?_
          obtain ⟨i21, hs⟩ := hs
          refine am_callV (As := [.int z1, .int z2]) (rest := []) dX7_ifBoarded_46 kMX7_82 rfl (hmc221 (m := m) hm) rfl rfl (Nat.le_of_ble_eq_true rfl) (d2 := 2) (by decide) (k2 := 0) (Nat.zero_le _) (u2 := 0) (Nat.zero_le _) (Nat.le_of_ble_eq_true rfl) (ctX7_lengthOn (m := m) hm z1 z2 i21) (fun v22 h23 q24 => ?_)
          obtain ⟨rfl, rfl⟩ := q24
          rw [show (fX7_ifBoarded m z1 z2) = (fX7_lengthOn m z1 z2) from ifn c5 (ifn c10 (ifp c15 (ifp c20 (rfl))))]
          exact am_ireturn dX7_ifBoarded_49 rfl rfl ⟨rfl, rfl⟩
        · have hs := hs.2 c20
          refine am_iconst (v := (-1)) dX7_ifBoarded_39 (by decide) ?_
          refine am_goto dX7_ifBoarded_40 (by decide : ((40 : Nat) : Int) + (9) = ((49 : Nat) : Int)) ?_
          rw [show (fX7_ifBoarded m z1 z2) = (-1) from ifn c5 (ifn c10 (ifp c15 (ifn c20 (rfl))))]
          exact am_ireturn dX7_ifBoarded_49 rfl rfl ⟨rfl, rfl⟩
      · have hs := hs.2 c15
        refine am_bipush (v := (-6)) dX7_ifBoarded_27 (by decide) ?_
        rw [show (fX7_ifBoarded m z1 z2) = (-6) from ifn c5 (ifn c10 (ifn c15 (rfl)))]
        exact am_ireturn dX7_ifBoarded_29 rfl rfl ⟨rfl, rfl⟩
    · have hs := hs.1 c10
      refine am_bipush (v := (-2)) dX7_ifBoarded_16 (by decide) ?_
      rw [show (fX7_ifBoarded m z1 z2) = (-2) from ifn c5 (ifp c10 (rfl))]
      exact am_ireturn dX7_ifBoarded_18 rfl rfl ⟨rfl, rfl⟩

theorem dX7_sizeOf_0 : decode cX7_sizeOf 0 = .ok (.aload_n 0, 1) := by decide +kernel
theorem dX7_sizeOf_1 : decode cX7_sizeOf 1 = .ok (.iload_n 1, 1) := by decide +kernel
theorem dX7_sizeOf_2 : decode cX7_sizeOf 2 = .ok (.invokevirtual 150, 3) := by decide +kernel
theorem dX7_sizeOf_5 : decode cX7_sizeOf 5 = .ok (.ifCond .eq 11, 3) := by decide +kernel
theorem dX7_sizeOf_8 : decode cX7_sizeOf 8 = .ok (.aload_n 0, 1) := by decide +kernel
theorem dX7_sizeOf_9 : decode cX7_sizeOf 9 = .ok (.iload_n 1, 1) := by decide +kernel
theorem dX7_sizeOf_10 : decode cX7_sizeOf 10 = .ok (.invokevirtual 161, 3) := by decide +kernel
theorem dX7_sizeOf_13 : decode cX7_sizeOf 13 = .ok (.goto 5, 3) := by decide +kernel
theorem dX7_sizeOf_16 : decode cX7_sizeOf 16 = .ok (.bipush (-2), 2) := by decide +kernel
theorem dX7_sizeOf_18 : decode cX7_sizeOf 18 = .ok (.ireturn, 1) := by decide +kernel
def fX7_sizeOf (m : Md) (z1 : Int32) : Int32 := (if (fX7_isPiece m z1) = 0 then (-2) else (fX7_sizeOfPiece m z1))
def sX7_sizeOf (m : Md) (z1 : Int32) : Prop := ((sX7_isPiece m z1) ∧ (((fX7_isPiece m z1) = 0 → True) ∧ (¬ (fX7_isPiece m z1) = 0 → ((sX7_sizeOfPiece m z1) ∧ True))))
set_option maxRecDepth 20000 in
theorem ctX7_sizeOf {l : Launch} {G : GM} {K : Nat → Option va_E} {h : List va_E} {m : Md} (hm : HM G K h m) (z1 : Int32) (hs : sX7_sizeOf m z1) : Ct l G mX7_sizeOf 3 0 0 [.ref (gz G + 221), .int z1] h (fun v h1 => v = some (.int (fX7_sizeOf m z1)) ∧ h1 = h) := by
  show Tr l G mX7_sizeOf 3 0 0 0 [(0, .ref (gz G + 221)), (1, .int z1)] [] h _
  unfold sX7_sizeOf at hs
  refine am_aload_n dX7_sizeOf_0 0 rfl ?_
  refine am_iload_n dX7_sizeOf_1 1 rfl ?_
  obtain ⟨i1, hs⟩ := hs
  refine am_callV (As := [.int z1]) (rest := []) dX7_sizeOf_2 kMX7_150 rfl (hmc221 (m := m) hm) rfl rfl (Nat.le_of_ble_eq_true rfl) (d2 := 1) (by decide) (k2 := 0) (Nat.zero_le _) (u2 := 0) (Nat.zero_le _) (Nat.le_of_ble_eq_true rfl) (ctX7_isPiece (m := m) hm z1 i1) (fun v2 h3 q4 => ?_)
  obtain ⟨rfl, rfl⟩ := q4
  refine am_if_eq dX7_sizeOf_5 (by decide : ((5 : Nat) : Int) + (11) = ((16 : Nat) : Int)) (fun c5 => ?_) (fun c5 => ?_)
  · have hs := hs.1 c5
    refine am_bipush (v := (-2)) dX7_sizeOf_16 (by decide) ?_
    rw [show (fX7_sizeOf m z1) = (-2) from ifp c5 (rfl)]
    exact am_ireturn dX7_sizeOf_18 rfl rfl ⟨rfl, rfl⟩
  · have hs := hs.2 c5
    refine am_aload_n dX7_sizeOf_8 0 rfl ?_
    refine am_iload_n dX7_sizeOf_9 1 rfl ?_
    obtain ⟨i6, hs⟩ := hs
    refine am_callV (As := [.int z1]) (rest := []) dX7_sizeOf_10 kMX7_161 rfl (hmc221 (m := m) hm) rfl rfl (Nat.le_of_ble_eq_true rfl) (d2 := 2) (by decide) (k2 := 0) (Nat.zero_le _) (u2 := 0) (Nat.zero_le _) (Nat.le_of_ble_eq_true rfl) (ctX7_sizeOfPiece (m := m) hm z1 i6) (fun v7 h8 q9 => ?_)
    obtain ⟨rfl, rfl⟩ := q9
    refine am_goto dX7_sizeOf_13 (by decide : ((13 : Nat) : Int) + (5) = ((18 : Nat) : Int)) ?_
    rw [show (fX7_sizeOf m z1) = (fX7_sizeOfPiece m z1) from ifn c5 (rfl)]
    exact am_ireturn dX7_sizeOf_18 rfl rfl ⟨rfl, rfl⟩

theorem dX7_ofSize_0 : decode cX7_ofSize 0 = .ok (.iload_n 1, 1) := by decide +kernel
theorem dX7_ofSize_1 : decode cX7_ofSize 1 = .ok (.i2l, 1) := by decide +kernel
theorem dX7_ofSize_2 : decode cX7_ofSize 2 = .ok (.lconst 0, 1) := by decide +kernel
theorem dX7_ofSize_3 : decode cX7_ofSize 3 = .ok (.aload_n 0, 1) := by decide +kernel
theorem dX7_ofSize_4 : decode cX7_ofSize 4 = .ok (.getfield 13, 3) := by decide +kernel
theorem dX7_ofSize_7 : decode cX7_ofSize 7 = .ok (.bipush 7, 2) := by decide +kernel
theorem dX7_ofSize_9 : decode cX7_ofSize 9 = .ok (.iaload, 1) := by decide +kernel
theorem dX7_ofSize_10 : decode cX7_ofSize 10 = .ok (.iconst 1, 1) := by decide +kernel
theorem dX7_ofSize_11 : decode cX7_ofSize 11 = .ok (.isub, 1) := by decide +kernel
theorem dX7_ofSize_12 : decode cX7_ofSize 12 = .ok (.i2l, 1) := by decide +kernel
theorem dX7_ofSize_13 : decode cX7_ofSize 13 = .ok (.invokestatic 56, 3) := by decide +kernel
theorem dX7_ofSize_16 : decode cX7_ofSize 16 = .ok (.ifCond .ne 6, 3) := by decide +kernel
theorem dX7_ofSize_19 : decode cX7_ofSize 19 = .ok (.bipush (-2), 2) := by decide +kernel
theorem dX7_ofSize_21 : decode cX7_ofSize 21 = .ok (.ireturn, 1) := by decide +kernel
theorem dX7_ofSize_22 : decode cX7_ofSize 22 = .ok (.iconst 0, 1) := by decide +kernel
theorem dX7_ofSize_23 : decode cX7_ofSize 23 = .ok (.istore_n 2, 1) := by decide +kernel
theorem dX7_ofSize_24 : decode cX7_ofSize 24 = .ok (.iconst 0, 1) := by decide +kernel
theorem dX7_ofSize_25 : decode cX7_ofSize 25 = .ok (.istore_n 3, 1) := by decide +kernel
theorem dX7_ofSize_26 : decode cX7_ofSize 26 = .ok (.iload_n 3, 1) := by decide +kernel
theorem dX7_ofSize_27 : decode cX7_ofSize 27 = .ok (.aload_n 0, 1) := by decide +kernel
theorem dX7_ofSize_28 : decode cX7_ofSize 28 = .ok (.invokevirtual 85, 3) := by decide +kernel
theorem dX7_ofSize_31 : decode cX7_ofSize 31 = .ok (.if_icmp .ge 28, 3) := by decide +kernel
theorem dX7_ofSize_34 : decode cX7_ofSize 34 = .ok (.iload_n 2, 1) := by decide +kernel
theorem dX7_ofSize_35 : decode cX7_ofSize 35 = .ok (.aload_n 0, 1) := by decide +kernel
theorem dX7_ofSize_36 : decode cX7_ofSize 36 = .ok (.iload_n 3, 1) := by decide +kernel
theorem dX7_ofSize_37 : decode cX7_ofSize 37 = .ok (.invokevirtual 161, 3) := by decide +kernel
theorem dX7_ofSize_40 : decode cX7_ofSize 40 = .ok (.iload_n 1, 1) := by decide +kernel
theorem dX7_ofSize_41 : decode cX7_ofSize 41 = .ok (.if_icmp .ne 9, 3) := by decide +kernel
theorem dX7_ofSize_44 : decode cX7_ofSize 44 = .ok (.iconst 1, 1) := by decide +kernel
theorem dX7_ofSize_45 : decode cX7_ofSize 45 = .ok (.iload_n 3, 1) := by decide +kernel
theorem dX7_ofSize_46 : decode cX7_ofSize 46 = .ok (.ishl, 1) := by decide +kernel
theorem dX7_ofSize_47 : decode cX7_ofSize 47 = .ok (.goto 4, 3) := by decide +kernel
theorem dX7_ofSize_50 : decode cX7_ofSize 50 = .ok (.iconst 0, 1) := by decide +kernel
theorem dX7_ofSize_51 : decode cX7_ofSize 51 = .ok (.ior, 1) := by decide +kernel
theorem dX7_ofSize_52 : decode cX7_ofSize 52 = .ok (.istore_n 2, 1) := by decide +kernel
theorem dX7_ofSize_53 : decode cX7_ofSize 53 = .ok (.iinc 3 1, 3) := by decide +kernel
theorem dX7_ofSize_56 : decode cX7_ofSize 56 = .ok (.goto (-30), 3) := by decide +kernel
theorem dX7_ofSize_59 : decode cX7_ofSize 59 = .ok (.iload_n 2, 1) := by decide +kernel
theorem dX7_ofSize_60 : decode cX7_ofSize 60 = .ok (.ireturn, 1) := by decide +kernel
def fX7_ofSize_26 (z1 : Int32)  (m : Md) : Nat → Int32 → Int32 → Int32 × Int32
  | 0, x3, x2 => (x3, x2)
  | fu + 1, x3, x2 => (if (fX7_count m ) ≤ x3 then (x3, x2) else (if (fX7_sizeOfPiece m x3) = z1 then (fX7_ofSize_26 z1  m fu (x3 + 1) (x2 ||| ((1 : Int32) <<< (x3 &&& 31))) ) else (fX7_ofSize_26 z1  m fu (x3 + 1) (x2 ||| 0) )))
def sX7_ofSize_26 (z1 : Int32)  (m : Md) : Nat → Int32 → Int32 → Prop
  | 0, _, _ => True
  | fu + 1, x3, x2 => (((fX7_count m ) ≤ x3 → True) ∧ (¬ (fX7_count m ) ≤ x3 → ((sX7_sizeOfPiece m x3) ∧ (((fX7_sizeOfPiece m x3) = z1 → (sX7_ofSize_26 z1  m fu (x3 + 1) (x2 ||| ((1 : Int32) <<< (x3 &&& 31))) )) ∧ (¬ (fX7_sizeOfPiece m x3) = z1 → (sX7_ofSize_26 z1  m fu (x3 + 1) (x2 ||| 0) ))))))
set_option maxRecDepth 20000 in
theorem wX7_ofSize_26 {l : Launch} {G : GM} {K : Nat → Option va_E} (z1 : Int32)   {h : List va_E} {m : Md} (hm : HM G K h m) {Q : Option Value → List va_E → Prop} : ∀ (fu : Nat) (x3 x2 : Int32) (iv : ivU (fX7_count m ) x3 fu) (hs : sX7_ofSize_26 z1  m fu x3 x2 ) (kx : ∀ (r : Int32 × Int32), (fX7_ofSize_26 z1  m fu x3 x2 ) = r → Tr l G mX7_ofSize 3 0 0 59 [(3, .int r.1), (2, .int r.2), (0, .ref (gz G + 221)), (1, .int z1)] [] h Q), Tr l G mX7_ofSize 3 0 0 26 [(3, .int x3), (2, .int x2), (0, .ref (gz G + 221)), (1, .int z1)] [] h Q := by
  intro fu
  induction fu with
  | zero => intro x3 x2 iv; intros; exact absurd iv ivU_0
  | succ fu ih =>
    intro x3 x2 iv hs    kx
    rw [sX7_ofSize_26] at hs
    refine am_iload_n dX7_ofSize_26 0 rfl ?_
    refine am_aload_n dX7_ofSize_27 2 rfl ?_
    refine am_callV (As := []) (rest := [.int x3]) dX7_ofSize_28 kMX7_85 rfl (hmc221 (m := m) hm) rfl rfl (Nat.le_of_ble_eq_true rfl) (d2 := 0) (by decide) (k2 := 0) (Nat.zero_le _) (u2 := 0) (Nat.zero_le _) (Nat.le_of_ble_eq_true rfl) (ctX7_count (m := m) hm  ) (fun v5 h6 q7 => ?_)
    obtain ⟨rfl, rfl⟩ := q7
    refine am_icmp_ge dX7_ofSize_31 (by decide : ((31 : Nat) : Int) + (28) = ((59 : Nat) : Int)) (fun c8 => ?_) (fun c8 => ?_)
    · have hs := hs.1 c8
      exact kx _ (ifp c8 (rfl))
    · have hs := hs.2 c8
      refine am_iload_n dX7_ofSize_34 1 rfl ?_
      refine am_aload_n dX7_ofSize_35 2 rfl ?_
      refine am_iload_n dX7_ofSize_36 0 rfl ?_
      obtain ⟨i9, hs⟩ := hs
      refine am_callV (As := [.int x3]) (rest := [.int x2]) dX7_ofSize_37 kMX7_161 rfl (hmc221 (m := m) hm) rfl rfl (Nat.le_of_ble_eq_true rfl) (d2 := 2) (by decide) (k2 := 0) (Nat.zero_le _) (u2 := 0) (Nat.zero_le _) (Nat.le_of_ble_eq_true rfl) (ctX7_sizeOfPiece (m := m) hm x3 i9) (fun v10 h11 q12 => ?_)
      obtain ⟨rfl, rfl⟩ := q12
      refine am_iload_n dX7_ofSize_40 3 rfl ?_
      refine am_icmp_ne dX7_ofSize_41 (by decide : ((41 : Nat) : Int) + (9) = ((50 : Nat) : Int)) (fun c13 => ?_) (fun c13 => ?_)
      · have hs := hs.2 c13
        refine am_iconst (v := 0) dX7_ofSize_50 (by decide) ?_
        refine am_ior dX7_ofSize_51 ?_
        refine am_istore_n dX7_ofSize_52 (by decide) (lv' := [(2, .int (x2 ||| 0)), (3, .int x3), (0, .ref (gz G + 221)), (1, .int z1)]) rfl ?_
        refine am_iinc (v := (x3 + 1)) dX7_ofSize_53 1 rfl rfl (by decide) (lv' := [(3, .int (x3 + 1)), (2, .int (x2 ||| 0)), (0, .ref (gz G + 221)), (1, .int z1)]) rfl ?_
        refine am_goto dX7_ofSize_56 (by decide : ((56 : Nat) : Int) + (-30) = ((26 : Nat) : Int)) ?_
        exact ih (x3 + 1) (x2 ||| 0) (ivU_s c8 iv) hs (fun r e => kx r (Eq.trans (ifn c8 (ifn c13 (rfl))) e))
      · have hs := hs.1 c13
        refine am_iconst (v := 1) dX7_ofSize_44 (by decide) ?_
        refine am_iload_n dX7_ofSize_45 0 rfl ?_
        refine am_ishl dX7_ofSize_46 ?_
        refine am_goto dX7_ofSize_47 (by decide : ((47 : Nat) : Int) + (4) = ((51 : Nat) : Int)) ?_
        refine am_ior dX7_ofSize_51 ?_
        refine am_istore_n dX7_ofSize_52 (by decide) (lv' := [(2, .int (x2 ||| ((1 : Int32) <<< (x3 &&& 31)))), (3, .int x3), (0, .ref (gz G + 221)), (1, .int z1)]) rfl ?_
        refine am_iinc (v := (x3 + 1)) dX7_ofSize_53 1 rfl rfl (by decide) (lv' := [(3, .int (x3 + 1)), (2, .int (x2 ||| ((1 : Int32) <<< (x3 &&& 31)))), (0, .ref (gz G + 221)), (1, .int z1)]) rfl ?_
        refine am_goto dX7_ofSize_56 (by decide : ((56 : Nat) : Int) + (-30) = ((26 : Nat) : Int)) ?_
        exact ih (x3 + 1) (x2 ||| ((1 : Int32) <<< (x3 &&& 31))) (ivU_s c8 iv) hs (fun r e => kx r (Eq.trans (ifn c8 (ifp c13 (rfl))) e))
def fX7_ofSize (m : Md) (z1 : Int32) : Int32 := (if (fX7_in (z1.toInt64) 0 ((((m.2.1 0) 7) - 1).toInt64)) = 0 then (-2) else (bnd (fX7_ofSize_26 z1  m (fuU (fX7_count m ) 0) 0 0 ) (fun r15 => r15.2)))
def sX7_ofSize (m : Md) (z1 : Int32) : Prop := (((fX7_in (z1.toInt64) 0 ((((m.2.1 0) 7) - 1).toInt64)) = 0 → True) ∧ (¬ (fX7_in (z1.toInt64) 0 ((((m.2.1 0) 7) - 1).toInt64)) = 0 → ((sX7_ofSize_26 z1  m (fuU (fX7_count m ) 0) 0 0 ) ∧ bnd (fX7_ofSize_26 z1  m (fuU (fX7_count m ) 0) 0 0 ) (fun r15 => True))))
set_option maxRecDepth 20000 in
theorem ctX7_ofSize {l : Launch} {G : GM} {K : Nat → Option va_E} {h : List va_E} {m : Md} (hm : HM G K h m) (z1 : Int32) (hs : sX7_ofSize m z1) : Ct l G mX7_ofSize 3 0 0 [.ref (gz G + 221), .int z1] h (fun v h1 => v = some (.int (fX7_ofSize m z1)) ∧ h1 = h) := by
  show Tr l G mX7_ofSize 3 0 0 0 [(0, .ref (gz G + 221)), (1, .int z1)] [] h _
  unfold sX7_ofSize at hs
  refine am_iload_n dX7_ofSize_0 1 rfl ?_
  refine am_i2l (v := z1.toInt64) dX7_ofSize_1 rfl ?_
  refine am_lconst (v := 0) dX7_ofSize_2 (by decide) ?_
  refine am_aload_n dX7_ofSize_3 0 rfl ?_
  refine am_get (v := .ref (gz G + 222)) dX7_ofSize_4 kGX7_13 (hmc221 (m := m) hm) rfl ?_
  refine am_bipush (v := 7) dX7_ofSize_7 (by decide) ?_
  refine am_iald (f := (m.2.1 0)) dX7_ofSize_9 (hmc222 (m := m) hm) (vp_lit (by decide)) ?_
  rw [tl7]
  refine am_iconst (v := 1) dX7_ofSize_10 (by decide) ?_
  refine am_isub dX7_ofSize_11 ?_
  refine am_i2l (v := (((m.2.1 0) 7) - 1).toInt64) dX7_ofSize_12 rfl ?_
  refine am_callS (As := [.long (z1.toInt64), .long 0, .long ((((m.2.1 0) 7) - 1).toInt64)]) (rest := []) dX7_ofSize_13 kMX7_56 rfl  rfl (Nat.le_of_ble_eq_true rfl) (d2 := 0) (by decide) (k2 := 0) (Nat.zero_le _) (u2 := 0) (Nat.zero_le _) (Nat.le_of_ble_eq_true rfl) (ctX7_in  (z1.toInt64) 0 ((((m.2.1 0) 7) - 1).toInt64) ) (fun v1 h2 q3 => ?_)
  obtain ⟨rfl, rfl⟩ := q3
  refine am_if_ne dX7_ofSize_16 (by decide : ((16 : Nat) : Int) + (6) = ((22 : Nat) : Int)) (fun c4 => ?_) (fun c4 => ?_)
  · have hs := hs.2 c4
    refine am_iconst (v := 0) dX7_ofSize_22 (by decide) ?_
    refine am_istore_n dX7_ofSize_23 (by decide) (lv' := [(2, .int 0), (0, .ref (gz G + 221)), (1, .int z1)]) rfl ?_
    refine am_iconst (v := 0) dX7_ofSize_24 (by decide) ?_
    refine am_istore_n dX7_ofSize_25 (by decide) (lv' := [(3, .int 0), (2, .int 0), (0, .ref (gz G + 221)), (1, .int z1)]) rfl ?_
    obtain ⟨i14, hs⟩ := hs
    refine wX7_ofSize_26 z1   hm (fuU (fX7_count m ) 0) 0 0 ivU_i i14 (fun r15 e16 => ?_)
    have hs := bnd_p e16 hs
    refine am_iload_n dX7_ofSize_59 1 rfl ?_
    rw [show (fX7_ofSize m z1) = r15.2 from ifn c4 (bnd_eq e16 (rfl))]
    exact am_ireturn dX7_ofSize_60 rfl rfl ⟨rfl, rfl⟩
  · have hs := hs.1 c4
    refine am_bipush (v := (-2)) dX7_ofSize_19 (by decide) ?_
    rw [show (fX7_ofSize m z1) = (-2) from ifp c4 (rfl)]
    exact am_ireturn dX7_ofSize_21 rfl rfl ⟨rfl, rfl⟩

theorem dX7_isBefore_0 : decode cX7_isBefore 0 = .ok (.aload_n 0, 1) := by decide +kernel
theorem dX7_isBefore_1 : decode cX7_isBefore 1 = .ok (.iload_n 1, 1) := by decide +kernel
theorem dX7_isBefore_2 : decode cX7_isBefore 2 = .ok (.iconst 3, 1) := by decide +kernel
theorem dX7_isBefore_3 : decode cX7_isBefore 3 = .ok (.invokevirtual 60, 3) := by decide +kernel
theorem dX7_isBefore_6 : decode cX7_isBefore 6 = .ok (.aload_n 0, 1) := by decide +kernel
theorem dX7_isBefore_7 : decode cX7_isBefore 7 = .ok (.iload_n 2, 1) := by decide +kernel
theorem dX7_isBefore_8 : decode cX7_isBefore 8 = .ok (.iconst 3, 1) := by decide +kernel
theorem dX7_isBefore_9 : decode cX7_isBefore 9 = .ok (.invokevirtual 60, 3) := by decide +kernel
theorem dX7_isBefore_12 : decode cX7_isBefore 12 = .ok (.isub, 1) := by decide +kernel
theorem dX7_isBefore_13 : decode cX7_isBefore 13 = .ok (.istore_n 3, 1) := by decide +kernel
theorem dX7_isBefore_14 : decode cX7_isBefore 14 = .ok (.aload_n 0, 1) := by decide +kernel
theorem dX7_isBefore_15 : decode cX7_isBefore 15 = .ok (.iload_n 1, 1) := by decide +kernel
theorem dX7_isBefore_16 : decode cX7_isBefore 16 = .ok (.iconst 4, 1) := by decide +kernel
theorem dX7_isBefore_17 : decode cX7_isBefore 17 = .ok (.invokevirtual 60, 3) := by decide +kernel
theorem dX7_isBefore_20 : decode cX7_isBefore 20 = .ok (.aload_n 0, 1) := by decide +kernel
theorem dX7_isBefore_21 : decode cX7_isBefore 21 = .ok (.iload_n 2, 1) := by decide +kernel
theorem dX7_isBefore_22 : decode cX7_isBefore 22 = .ok (.iconst 4, 1) := by decide +kernel
theorem dX7_isBefore_23 : decode cX7_isBefore 23 = .ok (.invokevirtual 60, 3) := by decide +kernel
theorem dX7_isBefore_26 : decode cX7_isBefore 26 = .ok (.isub, 1) := by decide +kernel
theorem dX7_isBefore_27 : decode cX7_isBefore 27 = .ok (.istore 4, 2) := by decide +kernel
theorem dX7_isBefore_29 : decode cX7_isBefore 29 = .ok (.iload_n 3, 1) := by decide +kernel
theorem dX7_isBefore_30 : decode cX7_isBefore 30 = .ok (.ifCond .eq 15, 3) := by decide +kernel
theorem dX7_isBefore_33 : decode cX7_isBefore 33 = .ok (.iload_n 3, 1) := by decide +kernel
theorem dX7_isBefore_34 : decode cX7_isBefore 34 = .ok (.ifCond .ge 7, 3) := by decide +kernel
theorem dX7_isBefore_37 : decode cX7_isBefore 37 = .ok (.iconst 1, 1) := by decide +kernel
theorem dX7_isBefore_38 : decode cX7_isBefore 38 = .ok (.goto 35, 3) := by decide +kernel
theorem dX7_isBefore_41 : decode cX7_isBefore 41 = .ok (.iconst 0, 1) := by decide +kernel
theorem dX7_isBefore_42 : decode cX7_isBefore 42 = .ok (.goto 31, 3) := by decide +kernel
theorem dX7_isBefore_45 : decode cX7_isBefore 45 = .ok (.iload 4, 2) := by decide +kernel
theorem dX7_isBefore_47 : decode cX7_isBefore 47 = .ok (.ifCond .eq 16, 3) := by decide +kernel
theorem dX7_isBefore_50 : decode cX7_isBefore 50 = .ok (.iload 4, 2) := by decide +kernel
theorem dX7_isBefore_52 : decode cX7_isBefore 52 = .ok (.ifCond .ge 7, 3) := by decide +kernel
theorem dX7_isBefore_55 : decode cX7_isBefore 55 = .ok (.iconst 1, 1) := by decide +kernel
theorem dX7_isBefore_56 : decode cX7_isBefore 56 = .ok (.goto 17, 3) := by decide +kernel
theorem dX7_isBefore_59 : decode cX7_isBefore 59 = .ok (.iconst 0, 1) := by decide +kernel
theorem dX7_isBefore_60 : decode cX7_isBefore 60 = .ok (.goto 13, 3) := by decide +kernel
theorem dX7_isBefore_63 : decode cX7_isBefore 63 = .ok (.iload_n 1, 1) := by decide +kernel
theorem dX7_isBefore_64 : decode cX7_isBefore 64 = .ok (.iload_n 2, 1) := by decide +kernel
theorem dX7_isBefore_65 : decode cX7_isBefore 65 = .ok (.if_icmp .ge 7, 3) := by decide +kernel
theorem dX7_isBefore_68 : decode cX7_isBefore 68 = .ok (.iconst 1, 1) := by decide +kernel
theorem dX7_isBefore_69 : decode cX7_isBefore 69 = .ok (.goto 4, 3) := by decide +kernel
theorem dX7_isBefore_72 : decode cX7_isBefore 72 = .ok (.iconst 0, 1) := by decide +kernel
theorem dX7_isBefore_73 : decode cX7_isBefore 73 = .ok (.ireturn, 1) := by decide +kernel
def fX7_isBefore (m : Md) (z1 : Int32) (z2 : Int32) : Int32 := (if ((fX7_field m z1 3) - (fX7_field m z2 3)) = 0 then (if ((fX7_field m z1 4) - (fX7_field m z2 4)) = 0 then (if z2 ≤ z1 then 0 else 1) else (if 0 ≤ ((fX7_field m z1 4) - (fX7_field m z2 4)) then 0 else 1)) else (if 0 ≤ ((fX7_field m z1 3) - (fX7_field m z2 3)) then 0 else 1))
def sX7_isBefore (m : Md) (z1 : Int32) (z2 : Int32) : Prop := ((sX7_field m z1 3) ∧ ((sX7_field m z2 3) ∧ ((sX7_field m z1 4) ∧ ((sX7_field m z2 4) ∧ ((((fX7_field m z1 3) - (fX7_field m z2 3)) = 0 → ((((fX7_field m z1 4) - (fX7_field m z2 4)) = 0 → ((z2 ≤ z1 → True) ∧ (¬ z2 ≤ z1 → True))) ∧ (¬ ((fX7_field m z1 4) - (fX7_field m z2 4)) = 0 → ((0 ≤ ((fX7_field m z1 4) - (fX7_field m z2 4)) → True) ∧ (¬ 0 ≤ ((fX7_field m z1 4) - (fX7_field m z2 4)) → True))))) ∧ (¬ ((fX7_field m z1 3) - (fX7_field m z2 3)) = 0 → ((0 ≤ ((fX7_field m z1 3) - (fX7_field m z2 3)) → True) ∧ (¬ 0 ≤ ((fX7_field m z1 3) - (fX7_field m z2 3)) → True))))))))
set_option maxRecDepth 20000 in
theorem ctX7_isBefore {l : Launch} {G : GM} {K : Nat → Option va_E} {h : List va_E} {m : Md} (hm : HM G K h m) (z1 : Int32) (z2 : Int32) (hs : sX7_isBefore m z1 z2) : Ct l G mX7_isBefore 2 0 0 [.ref (gz G + 221), .int z1, .int z2] h (fun v h1 => v = some (.int (fX7_isBefore m z1 z2)) ∧ h1 = h) := by
  show Tr l G mX7_isBefore 2 0 0 0 [(0, .ref (gz G + 221)), (1, .int z1), (2, .int z2)] [] h _
  unfold sX7_isBefore at hs
  refine am_aload_n dX7_isBefore_0 0 rfl ?_
  refine am_iload_n dX7_isBefore_1 1 rfl ?_
  refine am_iconst (v := 3) dX7_isBefore_2 (by decide) ?_
  obtain ⟨i1, hs⟩ := hs
  refine am_callV (As := [.int z1, .int 3]) (rest := []) dX7_isBefore_3 kMX7_60 rfl (hmc221 (m := m) hm) rfl rfl (Nat.le_of_ble_eq_true rfl) (d2 := 1) (by decide) (k2 := 0) (Nat.zero_le _) (u2 := 0) (Nat.zero_le _) (Nat.le_of_ble_eq_true rfl) (ctX7_field (m := m) hm z1 3 i1) (fun v2 h3 q4 => ?_)
  obtain ⟨rfl, rfl⟩ := q4
  refine am_aload_n dX7_isBefore_6 0 rfl ?_
  refine am_iload_n dX7_isBefore_7 2 rfl ?_
  refine am_iconst (v := 3) dX7_isBefore_8 (by decide) ?_
  obtain ⟨i5, hs⟩ := hs
  refine am_callV (As := [.int z2, .int 3]) (rest := [.int (fX7_field m z1 3)]) dX7_isBefore_9 kMX7_60 rfl (hmc221 (m := m) hm) rfl rfl (Nat.le_of_ble_eq_true rfl) (d2 := 1) (by decide) (k2 := 0) (Nat.zero_le _) (u2 := 0) (Nat.zero_le _) (Nat.le_of_ble_eq_true rfl) (ctX7_field (m := m) hm z2 3 i5) (fun v6 h7 q8 => ?_)
  obtain ⟨rfl, rfl⟩ := q8
  refine am_isub dX7_isBefore_12 ?_
  refine am_istore_n dX7_isBefore_13 (by decide) (lv' := [(3, .int ((fX7_field m z1 3) - (fX7_field m z2 3))), (0, .ref (gz G + 221)), (1, .int z1), (2, .int z2)]) rfl ?_
  refine am_aload_n dX7_isBefore_14 1 rfl ?_
  refine am_iload_n dX7_isBefore_15 2 rfl ?_
  refine am_iconst (v := 4) dX7_isBefore_16 (by decide) ?_
  obtain ⟨i9, hs⟩ := hs
  refine am_callV (As := [.int z1, .int 4]) (rest := []) dX7_isBefore_17 kMX7_60 rfl (hmc221 (m := m) hm) rfl rfl (Nat.le_of_ble_eq_true rfl) (d2 := 1) (by decide) (k2 := 0) (Nat.zero_le _) (u2 := 0) (Nat.zero_le _) (Nat.le_of_ble_eq_true rfl) (ctX7_field (m := m) hm z1 4 i9) (fun v10 h11 q12 => ?_)
  obtain ⟨rfl, rfl⟩ := q12
  refine am_aload_n dX7_isBefore_20 1 rfl ?_
  refine am_iload_n dX7_isBefore_21 3 rfl ?_
  refine am_iconst (v := 4) dX7_isBefore_22 (by decide) ?_
  obtain ⟨i13, hs⟩ := hs
  refine am_callV (As := [.int z2, .int 4]) (rest := [.int (fX7_field m z1 4)]) dX7_isBefore_23 kMX7_60 rfl (hmc221 (m := m) hm) rfl rfl (Nat.le_of_ble_eq_true rfl) (d2 := 1) (by decide) (k2 := 0) (Nat.zero_le _) (u2 := 0) (Nat.zero_le _) (Nat.le_of_ble_eq_true rfl) (ctX7_field (m := m) hm z2 4 i13) (fun v14 h15 q16 => ?_)
  obtain ⟨rfl, rfl⟩ := q16
  refine am_isub dX7_isBefore_26 ?_
  refine am_istore dX7_isBefore_27 (by decide) (lv' := [(4, .int ((fX7_field m z1 4) - (fX7_field m z2 4))), (3, .int ((fX7_field m z1 3) - (fX7_field m z2 3))), (0, .ref (gz G + 221)), (1, .int z1), (2, .int z2)]) rfl ?_
  refine am_iload_n dX7_isBefore_29 1 rfl ?_
  refine am_if_eq dX7_isBefore_30 (by decide : ((30 : Nat) : Int) + (15) = ((45 : Nat) : Int)) (fun c17 => ?_) (fun c17 => ?_)
  · have hs := hs.1 c17
    refine am_iload dX7_isBefore_45 0 rfl ?_
    refine am_if_eq dX7_isBefore_47 (by decide : ((47 : Nat) : Int) + (16) = ((63 : Nat) : Int)) (fun c18 => ?_) (fun c18 => ?_)
    · have hs := hs.1 c18
      refine am_iload_n dX7_isBefore_63 3 rfl ?_
      refine am_iload_n dX7_isBefore_64 4 rfl ?_
      refine am_icmp_ge dX7_isBefore_65 (by decide : ((65 : Nat) : Int) + (7) = ((72 : Nat) : Int)) (fun c19 => ?_) (fun c19 => ?_)
      · have hs := hs.1 c19
        refine am_iconst (v := 0) dX7_isBefore_72 (by decide) ?_
        rw [show (fX7_isBefore m z1 z2) = 0 from ifp c17 (ifp c18 (ifp c19 (rfl)))]
        exact am_ireturn dX7_isBefore_73 rfl rfl ⟨rfl, rfl⟩
      · have hs := hs.2 c19
        refine am_iconst (v := 1) dX7_isBefore_68 (by decide) ?_
        refine am_goto dX7_isBefore_69 (by decide : ((69 : Nat) : Int) + (4) = ((73 : Nat) : Int)) ?_
        rw [show (fX7_isBefore m z1 z2) = 1 from ifp c17 (ifp c18 (ifn c19 (rfl)))]
        exact am_ireturn dX7_isBefore_73 rfl rfl ⟨rfl, rfl⟩
    · have hs := hs.2 c18
      refine am_iload dX7_isBefore_50 0 rfl ?_
      refine am_if_ge dX7_isBefore_52 (by decide : ((52 : Nat) : Int) + (7) = ((59 : Nat) : Int)) (fun c20 => ?_) (fun c20 => ?_)
      · have hs := hs.1 c20
        refine am_iconst (v := 0) dX7_isBefore_59 (by decide) ?_
        refine am_goto dX7_isBefore_60 (by decide : ((60 : Nat) : Int) + (13) = ((73 : Nat) : Int)) ?_
        rw [show (fX7_isBefore m z1 z2) = 0 from ifp c17 (ifn c18 (ifp c20 (rfl)))]
        exact am_ireturn dX7_isBefore_73 rfl rfl ⟨rfl, rfl⟩
      · have hs := hs.2 c20
        refine am_iconst (v := 1) dX7_isBefore_55 (by decide) ?_
        refine am_goto dX7_isBefore_56 (by decide : ((56 : Nat) : Int) + (17) = ((73 : Nat) : Int)) ?_
        rw [show (fX7_isBefore m z1 z2) = 1 from ifp c17 (ifn c18 (ifn c20 (rfl)))]
        exact am_ireturn dX7_isBefore_73 rfl rfl ⟨rfl, rfl⟩
  · have hs := hs.2 c17
    refine am_iload_n dX7_isBefore_33 1 rfl ?_
    refine am_if_ge dX7_isBefore_34 (by decide : ((34 : Nat) : Int) + (7) = ((41 : Nat) : Int)) (fun c21 => ?_) (fun c21 => ?_)
    · have hs := hs.1 c21
      refine am_iconst (v := 0) dX7_isBefore_41 (by decide) ?_
      refine am_goto dX7_isBefore_42 (by decide : ((42 : Nat) : Int) + (31) = ((73 : Nat) : Int)) ?_
      rw [show (fX7_isBefore m z1 z2) = 0 from ifn c17 (ifp c21 (rfl))]
      exact am_ireturn dX7_isBefore_73 rfl rfl ⟨rfl, rfl⟩
    · have hs := hs.2 c21
      refine am_iconst (v := 1) dX7_isBefore_37 (by decide) ?_
      refine am_goto dX7_isBefore_38 (by decide : ((38 : Nat) : Int) + (35) = ((73 : Nat) : Int)) ?_
      rw [show (fX7_isBefore m z1 z2) = 1 from ifn c17 (ifn c21 (rfl))]
      exact am_ireturn dX7_isBefore_73 rfl rfl ⟨rfl, rfl⟩

theorem dX7_sorted_0 : decode cX7_sorted 0 = .ok (.iload_n 1, 1) := by decide +kernel
theorem dX7_sorted_1 : decode cX7_sorted 1 = .ok (.ifCond .ge 6, 3) := by decide +kernel
theorem dX7_sorted_4 : decode cX7_sorted 4 = .ok (.bipush (-2), 2) := by decide +kernel
theorem dX7_sorted_6 : decode cX7_sorted 6 = .ok (.ireturn, 1) := by decide +kernel
theorem dX7_sorted_7 : decode cX7_sorted 7 = .ok (.iconst 0, 1) := by decide +kernel
theorem dX7_sorted_8 : decode cX7_sorted 8 = .ok (.istore_n 2, 1) := by decide +kernel
theorem dX7_sorted_9 : decode cX7_sorted 9 = .ok (.iload_n 2, 1) := by decide +kernel
theorem dX7_sorted_10 : decode cX7_sorted 10 = .ok (.aload_n 0, 1) := by decide +kernel
theorem dX7_sorted_11 : decode cX7_sorted 11 = .ok (.invokevirtual 85, 3) := by decide +kernel
theorem dX7_sorted_14 : decode cX7_sorted 14 = .ok (.if_icmp .ge 54, 3) := by decide +kernel
theorem dX7_sorted_17 : decode cX7_sorted 17 = .ok (.iconst 0, 1) := by decide +kernel
theorem dX7_sorted_18 : decode cX7_sorted 18 = .ok (.istore_n 3, 1) := by decide +kernel
theorem dX7_sorted_19 : decode cX7_sorted 19 = .ok (.iconst 0, 1) := by decide +kernel
theorem dX7_sorted_20 : decode cX7_sorted 20 = .ok (.istore 4, 2) := by decide +kernel
theorem dX7_sorted_22 : decode cX7_sorted 22 = .ok (.iload 4, 2) := by decide +kernel
theorem dX7_sorted_24 : decode cX7_sorted 24 = .ok (.aload_n 0, 1) := by decide +kernel
theorem dX7_sorted_25 : decode cX7_sorted 25 = .ok (.invokevirtual 85, 3) := by decide +kernel
theorem dX7_sorted_28 : decode cX7_sorted 28 = .ok (.if_icmp .ge 27, 3) := by decide +kernel
theorem dX7_sorted_31 : decode cX7_sorted 31 = .ok (.iload_n 3, 1) := by decide +kernel
theorem dX7_sorted_32 : decode cX7_sorted 32 = .ok (.aload_n 0, 1) := by decide +kernel
theorem dX7_sorted_33 : decode cX7_sorted 33 = .ok (.iload 4, 2) := by decide +kernel
theorem dX7_sorted_35 : decode cX7_sorted 35 = .ok (.iload_n 2, 1) := by decide +kernel
theorem dX7_sorted_36 : decode cX7_sorted 36 = .ok (.invokevirtual 164, 3) := by decide +kernel
theorem dX7_sorted_39 : decode cX7_sorted 39 = .ok (.ifCond .eq 7, 3) := by decide +kernel
theorem dX7_sorted_42 : decode cX7_sorted 42 = .ok (.iconst 1, 1) := by decide +kernel
theorem dX7_sorted_43 : decode cX7_sorted 43 = .ok (.goto 4, 3) := by decide +kernel
theorem dX7_sorted_46 : decode cX7_sorted 46 = .ok (.iconst 0, 1) := by decide +kernel
theorem dX7_sorted_47 : decode cX7_sorted 47 = .ok (.iadd, 1) := by decide +kernel
theorem dX7_sorted_48 : decode cX7_sorted 48 = .ok (.istore_n 3, 1) := by decide +kernel
theorem dX7_sorted_49 : decode cX7_sorted 49 = .ok (.iinc 4 1, 3) := by decide +kernel
theorem dX7_sorted_52 : decode cX7_sorted 52 = .ok (.goto (-30), 3) := by decide +kernel
theorem dX7_sorted_55 : decode cX7_sorted 55 = .ok (.iload_n 3, 1) := by decide +kernel
theorem dX7_sorted_56 : decode cX7_sorted 56 = .ok (.iload_n 1, 1) := by decide +kernel
theorem dX7_sorted_57 : decode cX7_sorted 57 = .ok (.if_icmp .ne 5, 3) := by decide +kernel
theorem dX7_sorted_60 : decode cX7_sorted 60 = .ok (.iload_n 2, 1) := by decide +kernel
theorem dX7_sorted_61 : decode cX7_sorted 61 = .ok (.ireturn, 1) := by decide +kernel
theorem dX7_sorted_62 : decode cX7_sorted 62 = .ok (.iinc 2 1, 3) := by decide +kernel
theorem dX7_sorted_65 : decode cX7_sorted 65 = .ok (.goto (-56), 3) := by decide +kernel
theorem dX7_sorted_68 : decode cX7_sorted 68 = .ok (.iconst (-1), 1) := by decide +kernel
theorem dX7_sorted_69 : decode cX7_sorted 69 = .ok (.ireturn, 1) := by decide +kernel
def fX7_sorted_22 (z1 : Int32) (o2 : Int32) (m : Md) : Nat → Int32 → Int32 → Int32 × Int32
  | 0, x4, x3 => (x4, x3)
  | fu + 1, x4, x3 => (if (fX7_count m ) ≤ x4 then (x4, x3) else (if (fX7_isBefore m x4 o2) = 0 then (fX7_sorted_22 z1 o2 m fu (x4 + 1) (x3 + 0) ) else (fX7_sorted_22 z1 o2 m fu (x4 + 1) (x3 + 1) )))
def sX7_sorted_22 (z1 : Int32) (o2 : Int32) (m : Md) : Nat → Int32 → Int32 → Prop
  | 0, _, _ => True
  | fu + 1, x4, x3 => (((fX7_count m ) ≤ x4 → True) ∧ (¬ (fX7_count m ) ≤ x4 → ((sX7_isBefore m x4 o2) ∧ (((fX7_isBefore m x4 o2) = 0 → (sX7_sorted_22 z1 o2 m fu (x4 + 1) (x3 + 0) )) ∧ (¬ (fX7_isBefore m x4 o2) = 0 → (sX7_sorted_22 z1 o2 m fu (x4 + 1) (x3 + 1) ))))))
set_option maxRecDepth 20000 in
theorem wX7_sorted_22 {l : Launch} {G : GM} {K : Nat → Option va_E} (z1 : Int32) (o2 : Int32)  {h : List va_E} {m : Md} (hm : HM G K h m) {Q : Option Value → List va_E → Prop} : ∀ (fu : Nat) (x4 x3 : Int32) (iv : ivU (fX7_count m ) x4 fu) (hs : sX7_sorted_22 z1 o2 m fu x4 x3 ) (kx : ∀ (r : Int32 × Int32), (fX7_sorted_22 z1 o2 m fu x4 x3 ) = r → Tr l G mX7_sorted 3 0 0 55 [(4, .int r.1), (3, .int r.2), (2, .int o2), (0, .ref (gz G + 221)), (1, .int z1)] [] h Q), Tr l G mX7_sorted 3 0 0 22 [(4, .int x4), (3, .int x3), (2, .int o2), (0, .ref (gz G + 221)), (1, .int z1)] [] h Q := by
  intro fu
  induction fu with
  | zero => intro x4 x3 iv; intros; exact absurd iv ivU_0
  | succ fu ih =>
    intro x4 x3 iv hs    kx
    rw [sX7_sorted_22] at hs
    refine am_iload dX7_sorted_22 0 rfl ?_
    refine am_aload_n dX7_sorted_24 3 rfl ?_
    refine am_callV (As := []) (rest := [.int x4]) dX7_sorted_25 kMX7_85 rfl (hmc221 (m := m) hm) rfl rfl (Nat.le_of_ble_eq_true rfl) (d2 := 0) (by decide) (k2 := 0) (Nat.zero_le _) (u2 := 0) (Nat.zero_le _) (Nat.le_of_ble_eq_true rfl) (ctX7_count (m := m) hm  ) (fun v6 h7 q8 => ?_)
    obtain ⟨rfl, rfl⟩ := q8
    refine am_icmp_ge dX7_sorted_28 (by decide : ((28 : Nat) : Int) + (27) = ((55 : Nat) : Int)) (fun c9 => ?_) (fun c9 => ?_)
    · have hs := hs.1 c9
      exact kx _ (ifp c9 (rfl))
    · have hs := hs.2 c9
      refine am_iload_n dX7_sorted_31 1 rfl ?_
      refine am_aload_n dX7_sorted_32 3 rfl ?_
      refine am_iload dX7_sorted_33 0 rfl ?_
      refine am_iload_n dX7_sorted_35 2 rfl ?_
      obtain ⟨i10, hs⟩ := hs
      refine am_callV (As := [.int x4, .int o2]) (rest := [.int x3]) dX7_sorted_36 kMX7_164 rfl (hmc221 (m := m) hm) rfl rfl (Nat.le_of_ble_eq_true rfl) (d2 := 2) (by decide) (k2 := 0) (Nat.zero_le _) (u2 := 0) (Nat.zero_le _) (Nat.le_of_ble_eq_true rfl) (ctX7_isBefore (m := m) hm x4 o2 i10) (fun v11 h12 q13 => ?_)
      obtain ⟨rfl, rfl⟩ := q13
      refine am_if_eq dX7_sorted_39 (by decide : ((39 : Nat) : Int) + (7) = ((46 : Nat) : Int)) (fun c14 => ?_) (fun c14 => ?_)
      · have hs := hs.1 c14
        refine am_iconst (v := 0) dX7_sorted_46 (by decide) ?_
        refine am_iadd dX7_sorted_47 ?_
        refine am_istore_n dX7_sorted_48 (by decide) (lv' := [(3, .int (x3 + 0)), (4, .int x4), (2, .int o2), (0, .ref (gz G + 221)), (1, .int z1)]) rfl ?_
        refine am_iinc (v := (x4 + 1)) dX7_sorted_49 1 rfl rfl (by decide) (lv' := [(4, .int (x4 + 1)), (3, .int (x3 + 0)), (2, .int o2), (0, .ref (gz G + 221)), (1, .int z1)]) rfl ?_
        refine am_goto dX7_sorted_52 (by decide : ((52 : Nat) : Int) + (-30) = ((22 : Nat) : Int)) ?_
        exact ih (x4 + 1) (x3 + 0) (ivU_s c9 iv) hs (fun r e => kx r (Eq.trans (ifn c9 (ifp c14 (rfl))) e))
      · have hs := hs.2 c14
        refine am_iconst (v := 1) dX7_sorted_42 (by decide) ?_
        refine am_goto dX7_sorted_43 (by decide : ((43 : Nat) : Int) + (4) = ((47 : Nat) : Int)) ?_
        refine am_iadd dX7_sorted_47 ?_
        refine am_istore_n dX7_sorted_48 (by decide) (lv' := [(3, .int (x3 + 1)), (4, .int x4), (2, .int o2), (0, .ref (gz G + 221)), (1, .int z1)]) rfl ?_
        refine am_iinc (v := (x4 + 1)) dX7_sorted_49 1 rfl rfl (by decide) (lv' := [(4, .int (x4 + 1)), (3, .int (x3 + 1)), (2, .int o2), (0, .ref (gz G + 221)), (1, .int z1)]) rfl ?_
        refine am_goto dX7_sorted_52 (by decide : ((52 : Nat) : Int) + (-30) = ((22 : Nat) : Int)) ?_
        exact ih (x4 + 1) (x3 + 1) (ivU_s c9 iv) hs (fun r e => kx r (Eq.trans (ifn c9 (ifn c14 (rfl))) e))
def fX7_sorted_9 (z1 : Int32)  (m : Md) : Nat → Int32 → Int32
  | 0, _ => 0
  | fu + 1, x2 => (if (fX7_count m ) ≤ x2 then (-1) else (bnd (fX7_sorted_22 z1 x2 m (fuU (fX7_count m ) 0) 0 0 ) (fun r16 => (if r16.2 = z1 then x2 else (fX7_sorted_9 z1  m fu (x2 + 1) )))))
def sX7_sorted_9 (z1 : Int32)  (m : Md) : Nat → Int32 → Prop
  | 0, _ => True
  | fu + 1, x2 => (((fX7_count m ) ≤ x2 → True) ∧ (¬ (fX7_count m ) ≤ x2 → ((sX7_sorted_22 z1 x2 m (fuU (fX7_count m ) 0) 0 0 ) ∧ bnd (fX7_sorted_22 z1 x2 m (fuU (fX7_count m ) 0) 0 0 ) (fun r16 => ((r16.2 = z1 → True) ∧ (¬ r16.2 = z1 → (sX7_sorted_9 z1  m fu (x2 + 1) )))))))
set_option maxRecDepth 20000 in
theorem wX7_sorted_9 {l : Launch} {G : GM} {K : Nat → Option va_E} (z1 : Int32)   {h : List va_E} {m : Md} (hm : HM G K h m) : ∀ (fu : Nat) (x2 : Int32) (iv : ivU (fX7_count m ) x2 fu) (hs : sX7_sorted_9 z1  m fu x2 ), Tr l G mX7_sorted 3 0 0 9 [(2, .int x2), (0, .ref (gz G + 221)), (1, .int z1)] [] h (fun v h1 => v = some (.int (fX7_sorted_9 z1  m fu x2 )) ∧ h1 = h) := by
  intro fu
  induction fu with
  | zero => intro x2 iv; intros; exact absurd iv ivU_0
  | succ fu ih =>
    intro x2 iv hs    
    rw [sX7_sorted_9] at hs
    refine am_iload_n dX7_sorted_9 0 rfl ?_
    refine am_aload_n dX7_sorted_10 1 rfl ?_
    refine am_callV (As := []) (rest := [.int x2]) dX7_sorted_11 kMX7_85 rfl (hmc221 (m := m) hm) rfl rfl (Nat.le_of_ble_eq_true rfl) (d2 := 0) (by decide) (k2 := 0) (Nat.zero_le _) (u2 := 0) (Nat.zero_le _) (Nat.le_of_ble_eq_true rfl) (ctX7_count (m := m) hm  ) (fun v2 h3 q4 => ?_)
    obtain ⟨rfl, rfl⟩ := q4
    refine am_icmp_ge dX7_sorted_14 (by decide : ((14 : Nat) : Int) + (54) = ((68 : Nat) : Int)) (fun c5 => ?_) (fun c5 => ?_)
    · have hs := hs.1 c5
      refine am_iconst (v := (-1)) dX7_sorted_68 (by decide) ?_
      rw [show (fX7_sorted_9 z1  m (fu + 1) x2 ) = (-1) from ifp c5 (rfl)]
      exact am_ireturn dX7_sorted_69 rfl rfl ⟨rfl, rfl⟩
    · have hs := hs.2 c5
      refine am_iconst (v := 0) dX7_sorted_17 (by decide) ?_
      refine am_istore_n dX7_sorted_18 (by decide) (lv' := [(3, .int 0), (2, .int x2), (0, .ref (gz G + 221)), (1, .int z1)]) rfl ?_
      refine am_iconst (v := 0) dX7_sorted_19 (by decide) ?_
      refine am_istore dX7_sorted_20 (by decide) (lv' := [(4, .int 0), (3, .int 0), (2, .int x2), (0, .ref (gz G + 221)), (1, .int z1)]) rfl ?_
      obtain ⟨i15, hs⟩ := hs
      refine wX7_sorted_22 z1 x2  hm (fuU (fX7_count m ) 0) 0 0 ivU_i i15 (fun r16 e17 => ?_)
      have hs := bnd_p e17 hs
      refine am_iload_n dX7_sorted_55 1 rfl ?_
      refine am_iload_n dX7_sorted_56 4 rfl ?_
      refine am_icmp_ne dX7_sorted_57 (by decide : ((57 : Nat) : Int) + (5) = ((62 : Nat) : Int)) (fun c18 => ?_) (fun c18 => ?_)
      · have hs := hs.2 c18
        refine am_iinc (v := (x2 + 1)) dX7_sorted_62 2 rfl rfl (by decide) (lv' := [(2, .int (x2 + 1)), (4, .int r16.1), (3, .int r16.2), (0, .ref (gz G + 221)), (1, .int z1)]) rfl ?_
        refine am_goto dX7_sorted_65 (by decide : ((65 : Nat) : Int) + (-56) = ((9 : Nat) : Int)) ?_
        refine am_lv (lv' := [(2, .int (x2 + 1)), (0, .ref (gz G + 221)), (1, .int z1)]) [0, 3, 4] rfl ?_
        rw [show (fX7_sorted_9 z1  m (fu + 1) x2 ) = (fX7_sorted_9 z1  m fu (x2 + 1) ) from ifn c5 (bnd_eq e17 (ifn c18 (rfl)))]
        exact ih (x2 + 1) (ivU_s c5 iv) hs 
      · have hs := hs.1 c18
        refine am_iload_n dX7_sorted_60 2 rfl ?_
        rw [show (fX7_sorted_9 z1  m (fu + 1) x2 ) = x2 from ifn c5 (bnd_eq e17 (ifp c18 (rfl)))]
        exact am_ireturn dX7_sorted_61 rfl rfl ⟨rfl, rfl⟩
def fX7_sorted (m : Md) (z1 : Int32) : Int32 := (if 0 ≤ z1 then (fX7_sorted_9 z1  m (fuU (fX7_count m ) 0) 0 ) else (-2))
def sX7_sorted (m : Md) (z1 : Int32) : Prop := ((0 ≤ z1 → (sX7_sorted_9 z1  m (fuU (fX7_count m ) 0) 0 )) ∧ (¬ 0 ≤ z1 → True))
set_option maxRecDepth 20000 in
theorem ctX7_sorted {l : Launch} {G : GM} {K : Nat → Option va_E} {h : List va_E} {m : Md} (hm : HM G K h m) (z1 : Int32) (hs : sX7_sorted m z1) : Ct l G mX7_sorted 3 0 0 [.ref (gz G + 221), .int z1] h (fun v h1 => v = some (.int (fX7_sorted m z1)) ∧ h1 = h) := by
  show Tr l G mX7_sorted 3 0 0 0 [(0, .ref (gz G + 221)), (1, .int z1)] [] h _
  unfold sX7_sorted at hs
  refine am_iload_n dX7_sorted_0 1 rfl ?_
  refine am_if_ge dX7_sorted_1 (by decide : ((1 : Nat) : Int) + (6) = ((7 : Nat) : Int)) (fun c1 => ?_) (fun c1 => ?_)
  · have hs := hs.1 c1
    refine am_iconst (v := 0) dX7_sorted_7 (by decide) ?_
    refine am_istore_n dX7_sorted_8 (by decide) (lv' := [(2, .int 0), (0, .ref (gz G + 221)), (1, .int z1)]) rfl ?_
    rw [show (fX7_sorted m z1) = (fX7_sorted_9 z1  m (fuU (fX7_count m ) 0) 0 ) from ifp c1 (rfl)]
    exact wX7_sorted_9 z1   hm (fuU (fX7_count m ) 0) 0 ivU_i hs
  · have hs := hs.2 c1
    refine am_bipush (v := (-2)) dX7_sorted_4 (by decide) ?_
    rw [show (fX7_sorted m z1) = (-2) from ifn c1 (rfl)]
    exact am_ireturn dX7_sorted_6 rfl rfl ⟨rfl, rfl⟩

theorem dX7_lengthRange_0 : decode cX7_lengthRange 0 = .ok (.ldc 117, 2) := by decide +kernel
theorem dX7_lengthRange_2 : decode cX7_lengthRange 2 = .ok (.istore_n 1, 1) := by decide +kernel
theorem dX7_lengthRange_3 : decode cX7_lengthRange 3 = .ok (.iconst (-1), 1) := by decide +kernel
theorem dX7_lengthRange_4 : decode cX7_lengthRange 4 = .ok (.istore_n 2, 1) := by decide +kernel
theorem dX7_lengthRange_5 : decode cX7_lengthRange 5 = .ok (.iconst 0, 1) := by decide +kernel
theorem dX7_lengthRange_6 : decode cX7_lengthRange 6 = .ok (.istore_n 3, 1) := by decide +kernel
theorem dX7_lengthRange_7 : decode cX7_lengthRange 7 = .ok (.iload_n 3, 1) := by decide +kernel
theorem dX7_lengthRange_8 : decode cX7_lengthRange 8 = .ok (.aload_n 0, 1) := by decide +kernel
theorem dX7_lengthRange_9 : decode cX7_lengthRange 9 = .ok (.invokevirtual 85, 3) := by decide +kernel
theorem dX7_lengthRange_12 : decode cX7_lengthRange 12 = .ok (.if_icmp .ge 43, 3) := by decide +kernel
theorem dX7_lengthRange_15 : decode cX7_lengthRange 15 = .ok (.aload_n 0, 1) := by decide +kernel
theorem dX7_lengthRange_16 : decode cX7_lengthRange 16 = .ok (.iload_n 3, 1) := by decide +kernel
theorem dX7_lengthRange_17 : decode cX7_lengthRange 17 = .ok (.iconst 1, 1) := by decide +kernel
theorem dX7_lengthRange_18 : decode cX7_lengthRange 18 = .ok (.invokevirtual 89, 3) := by decide +kernel
theorem dX7_lengthRange_21 : decode cX7_lengthRange 21 = .ok (.ifCond .ne 6, 3) := by decide +kernel
theorem dX7_lengthRange_24 : decode cX7_lengthRange 24 = .ok (.goto 25, 3) := by decide +kernel
theorem dX7_lengthRange_27 : decode cX7_lengthRange 27 = .ok (.iload_n 1, 1) := by decide +kernel
theorem dX7_lengthRange_28 : decode cX7_lengthRange 28 = .ok (.aload_n 0, 1) := by decide +kernel
theorem dX7_lengthRange_29 : decode cX7_lengthRange 29 = .ok (.iload_n 3, 1) := by decide +kernel
theorem dX7_lengthRange_30 : decode cX7_lengthRange 30 = .ok (.iconst 3, 1) := by decide +kernel
theorem dX7_lengthRange_31 : decode cX7_lengthRange 31 = .ok (.invokevirtual 60, 3) := by decide +kernel
theorem dX7_lengthRange_34 : decode cX7_lengthRange 34 = .ok (.invokestatic 127, 3) := by decide +kernel
theorem dX7_lengthRange_37 : decode cX7_lengthRange 37 = .ok (.istore_n 1, 1) := by decide +kernel
theorem dX7_lengthRange_38 : decode cX7_lengthRange 38 = .ok (.iload_n 2, 1) := by decide +kernel
theorem dX7_lengthRange_39 : decode cX7_lengthRange 39 = .ok (.aload_n 0, 1) := by decide +kernel
theorem dX7_lengthRange_40 : decode cX7_lengthRange 40 = .ok (.iload_n 3, 1) := by decide +kernel
theorem dX7_lengthRange_41 : decode cX7_lengthRange 41 = .ok (.iconst 3, 1) := by decide +kernel
theorem dX7_lengthRange_42 : decode cX7_lengthRange 42 = .ok (.invokevirtual 60, 3) := by decide +kernel
theorem dX7_lengthRange_45 : decode cX7_lengthRange 45 = .ok (.invokestatic 63, 3) := by decide +kernel
theorem dX7_lengthRange_48 : decode cX7_lengthRange 48 = .ok (.istore_n 2, 1) := by decide +kernel
theorem dX7_lengthRange_49 : decode cX7_lengthRange 49 = .ok (.iinc 3 1, 3) := by decide +kernel
theorem dX7_lengthRange_52 : decode cX7_lengthRange 52 = .ok (.goto (-45), 3) := by decide +kernel
theorem dX7_lengthRange_55 : decode cX7_lengthRange 55 = .ok (.iload_n 2, 1) := by decide +kernel
theorem dX7_lengthRange_56 : decode cX7_lengthRange 56 = .ok (.iconst (-1), 1) := by decide +kernel
theorem dX7_lengthRange_57 : decode cX7_lengthRange 57 = .ok (.if_icmp .ne 7, 3) := by decide +kernel
theorem dX7_lengthRange_60 : decode cX7_lengthRange 60 = .ok (.iconst (-1), 1) := by decide +kernel
theorem dX7_lengthRange_61 : decode cX7_lengthRange 61 = .ok (.goto 6, 3) := by decide +kernel
theorem dX7_lengthRange_64 : decode cX7_lengthRange 64 = .ok (.iload_n 2, 1) := by decide +kernel
theorem dX7_lengthRange_65 : decode cX7_lengthRange 65 = .ok (.iload_n 1, 1) := by decide +kernel
theorem dX7_lengthRange_66 : decode cX7_lengthRange 66 = .ok (.isub, 1) := by decide +kernel
theorem dX7_lengthRange_67 : decode cX7_lengthRange 67 = .ok (.ireturn, 1) := by decide +kernel
def fX7_lengthRange_7   (m : Md) : Nat → Int32 → Int32 → Int32 → Int32 × Int32 × Int32
  | 0, x3, x2, x1 => (x3, x2, x1)
  | fu + 1, x3, x2, x1 => (if (fX7_count m ) ≤ x3 then (x3, x2, x1) else (if (fX7_isIn m x3 1) = 0 then (fX7_lengthRange_7   m fu (x3 + 1) x2 x1 ) else (fX7_lengthRange_7   m fu (x3 + 1) (imx x2 (fX7_field m x3 3)) (imn x1 (fX7_field m x3 3)) )))
def sX7_lengthRange_7   (m : Md) : Nat → Int32 → Int32 → Int32 → Prop
  | 0, _, _, _ => True
  | fu + 1, x3, x2, x1 => (((fX7_count m ) ≤ x3 → True) ∧ (¬ (fX7_count m ) ≤ x3 → ((sX7_isIn m x3 1) ∧ (((fX7_isIn m x3 1) = 0 → (sX7_lengthRange_7   m fu (x3 + 1) x2 x1 )) ∧ (¬ (fX7_isIn m x3 1) = 0 → ((sX7_field m x3 3) ∧ ((sX7_field m x3 3) ∧ (sX7_lengthRange_7   m fu (x3 + 1) (imx x2 (fX7_field m x3 3)) (imn x1 (fX7_field m x3 3)) ))))))))
set_option maxRecDepth 20000 in
theorem wX7_lengthRange_7 {l : Launch} {G : GM} {K : Nat → Option va_E}    {h : List va_E} {m : Md} (hm : HM G K h m) {Q : Option Value → List va_E → Prop} : ∀ (fu : Nat) (x3 x2 x1 : Int32) (iv : ivU (fX7_count m ) x3 fu) (hs : sX7_lengthRange_7   m fu x3 x2 x1 ) (kx : ∀ (r : Int32 × Int32 × Int32), (fX7_lengthRange_7   m fu x3 x2 x1 ) = r → Tr l G mX7_lengthRange 3 0 0 55 [(3, .int r.1), (2, .int r.2.1), (1, .int r.2.2), (0, .ref (gz G + 221))] [] h Q), Tr l G mX7_lengthRange 3 0 0 7 [(3, .int x3), (2, .int x2), (1, .int x1), (0, .ref (gz G + 221))] [] h Q := by
  intro fu
  induction fu with
  | zero => intro x3 x2 x1 iv; intros; exact absurd iv ivU_0
  | succ fu ih =>
    intro x3 x2 x1 iv hs    kx
    rw [sX7_lengthRange_7] at hs
    refine am_iload_n dX7_lengthRange_7 0 rfl ?_
    refine am_aload_n dX7_lengthRange_8 3 rfl ?_
    refine am_callV (As := []) (rest := [.int x3]) dX7_lengthRange_9 kMX7_85 rfl (hmc221 (m := m) hm) rfl rfl (Nat.le_of_ble_eq_true rfl) (d2 := 0) (by decide) (k2 := 0) (Nat.zero_le _) (u2 := 0) (Nat.zero_le _) (Nat.le_of_ble_eq_true rfl) (ctX7_count (m := m) hm  ) (fun v1 h2 q3 => ?_)
    obtain ⟨rfl, rfl⟩ := q3
    refine am_icmp_ge dX7_lengthRange_12 (by decide : ((12 : Nat) : Int) + (43) = ((55 : Nat) : Int)) (fun c4 => ?_) (fun c4 => ?_)
    · have hs := hs.1 c4
      exact kx _ (ifp c4 (rfl))
    · have hs := hs.2 c4
      refine am_aload_n dX7_lengthRange_15 3 rfl ?_
      refine am_iload_n dX7_lengthRange_16 0 rfl ?_
      refine am_iconst (v := 1) dX7_lengthRange_17 (by decide) ?_
      obtain ⟨i5, hs⟩ := hs
      refine am_callV (As := [.int x3, .int 1]) (rest := []) dX7_lengthRange_18 kMX7_89 rfl (hmc221 (m := m) hm) rfl rfl (Nat.le_of_ble_eq_true rfl) (d2 := 2) (by decide) (k2 := 0) (Nat.zero_le _) (u2 := 0) (Nat.zero_le _) (Nat.le_of_ble_eq_true rfl) (ctX7_isIn (m := m) hm x3 1 i5) (fun v6 h7 q8 => ?_)
      obtain ⟨rfl, rfl⟩ := q8
      refine am_if_ne dX7_lengthRange_21 (by decide : ((21 : Nat) : Int) + (6) = ((27 : Nat) : Int)) (fun c9 => ?_) (fun c9 => ?_)
      · have hs := hs.2 c9
        refine am_iload_n dX7_lengthRange_27 2 rfl ?_
        refine am_aload_n dX7_lengthRange_28 3 rfl ?_
        refine am_iload_n dX7_lengthRange_29 0 rfl ?_
        refine am_iconst (v := 3) dX7_lengthRange_30 (by decide) ?_
        obtain ⟨i10, hs⟩ := hs
        refine am_callV (As := [.int x3, .int 3]) (rest := [.int x1]) dX7_lengthRange_31 kMX7_60 rfl (hmc221 (m := m) hm) rfl rfl (Nat.le_of_ble_eq_true rfl) (d2 := 1) (by decide) (k2 := 0) (Nat.zero_le _) (u2 := 0) (Nat.zero_le _) (Nat.le_of_ble_eq_true rfl) (ctX7_field (m := m) hm x3 3 i10) (fun v11 h12 q13 => ?_)
        obtain ⟨rfl, rfl⟩ := q13
        refine am_mmin dX7_lengthRange_34 kXX7_127 (Nat.le_of_ble_eq_true rfl) (by decide) ?_
        refine am_istore_n dX7_lengthRange_37 (by decide) (lv' := [(1, .int (imn x1 (fX7_field m x3 3))), (3, .int x3), (2, .int x2), (0, .ref (gz G + 221))]) rfl ?_
        refine am_iload_n dX7_lengthRange_38 2 rfl ?_
        refine am_aload_n dX7_lengthRange_39 3 rfl ?_
        refine am_iload_n dX7_lengthRange_40 1 rfl ?_
        refine am_iconst (v := 3) dX7_lengthRange_41 (by decide) ?_
        obtain ⟨i14, hs⟩ := hs
        refine am_callV (As := [.int x3, .int 3]) (rest := [.int x2]) dX7_lengthRange_42 kMX7_60 rfl (hmc221 (m := m) hm) rfl rfl (Nat.le_of_ble_eq_true rfl) (d2 := 1) (by decide) (k2 := 0) (Nat.zero_le _) (u2 := 0) (Nat.zero_le _) (Nat.le_of_ble_eq_true rfl) (ctX7_field (m := m) hm x3 3 i14) (fun v15 h16 q17 => ?_)
        obtain ⟨rfl, rfl⟩ := q17
        refine am_mmax dX7_lengthRange_45 kXX7_63 (Nat.le_of_ble_eq_true rfl) (by decide) ?_
        refine am_istore_n dX7_lengthRange_48 (by decide) (lv' := [(2, .int (imx x2 (fX7_field m x3 3))), (1, .int (imn x1 (fX7_field m x3 3))), (3, .int x3), (0, .ref (gz G + 221))]) rfl ?_
        refine am_iinc (v := (x3 + 1)) dX7_lengthRange_49 2 rfl rfl (by decide) (lv' := [(3, .int (x3 + 1)), (2, .int (imx x2 (fX7_field m x3 3))), (1, .int (imn x1 (fX7_field m x3 3))), (0, .ref (gz G + 221))]) rfl ?_
        refine am_goto dX7_lengthRange_52 (by decide : ((52 : Nat) : Int) + (-45) = ((7 : Nat) : Int)) ?_
        exact ih (x3 + 1) (imx x2 (fX7_field m x3 3)) (imn x1 (fX7_field m x3 3)) (ivU_s c4 iv) hs (fun r e => kx r (Eq.trans (ifn c4 (ifn c9 (rfl))) e))
      · have hs := hs.1 c9
        refine am_goto dX7_lengthRange_24 (by decide : ((24 : Nat) : Int) + (25) = ((49 : Nat) : Int)) ?_
        refine am_iinc (v := (x3 + 1)) dX7_lengthRange_49 0 rfl rfl (by decide) (lv' := [(3, .int (x3 + 1)), (2, .int x2), (1, .int x1), (0, .ref (gz G + 221))]) rfl ?_
        refine am_goto dX7_lengthRange_52 (by decide : ((52 : Nat) : Int) + (-45) = ((7 : Nat) : Int)) ?_
        exact ih (x3 + 1) x2 x1 (ivU_s c4 iv) hs (fun r e => kx r (Eq.trans (ifn c4 (ifp c9 (rfl))) e))
def fX7_lengthRange (m : Md)  : Int32 := (bnd (fX7_lengthRange_7   m (fuU (fX7_count m ) 0) 0 (-1) 100000 ) (fun r19 => (if r19.2.1 = (-1) then (-1) else (r19.2.1 - r19.2.2))))
def sX7_lengthRange (m : Md)  : Prop := ((sX7_lengthRange_7   m (fuU (fX7_count m ) 0) 0 (-1) 100000 ) ∧ bnd (fX7_lengthRange_7   m (fuU (fX7_count m ) 0) 0 (-1) 100000 ) (fun r19 => ((r19.2.1 = (-1) → True) ∧ (¬ r19.2.1 = (-1) → True))))
set_option maxRecDepth 20000 in
theorem ctX7_lengthRange {l : Launch} {G : GM} {K : Nat → Option va_E} {h : List va_E} {m : Md} (hm : HM G K h m)  (hs : sX7_lengthRange m ) : Ct l G mX7_lengthRange 3 0 0 [.ref (gz G + 221)] h (fun v h1 => v = some (.int (fX7_lengthRange m )) ∧ h1 = h) := by
  show Tr l G mX7_lengthRange 3 0 0 0 [(0, .ref (gz G + 221))] [] h _
  unfold sX7_lengthRange at hs
  refine am_ldc (v := 100000) dX7_lengthRange_0 kKX7_117 ?_
  refine am_istore_n dX7_lengthRange_2 (by decide) (lv' := [(1, .int 100000), (0, .ref (gz G + 221))]) rfl ?_
  refine am_iconst (v := (-1)) dX7_lengthRange_3 (by decide) ?_
  refine am_istore_n dX7_lengthRange_4 (by decide) (lv' := [(2, .int (-1)), (1, .int 100000), (0, .ref (gz G + 221))]) rfl ?_
  refine am_iconst (v := 0) dX7_lengthRange_5 (by decide) ?_
  refine am_istore_n dX7_lengthRange_6 (by decide) (lv' := [(3, .int 0), (2, .int (-1)), (1, .int 100000), (0, .ref (gz G + 221))]) rfl ?_
  obtain ⟨i18, hs⟩ := hs
  refine wX7_lengthRange_7    hm (fuU (fX7_count m ) 0) 0 (-1) 100000 ivU_i i18 (fun r19 e20 => ?_)
  have hs := bnd_p e20 hs
  refine am_iload_n dX7_lengthRange_55 1 rfl ?_
  refine am_iconst (v := (-1)) dX7_lengthRange_56 (by decide) ?_
  refine am_icmp_ne dX7_lengthRange_57 (by decide : ((57 : Nat) : Int) + (7) = ((64 : Nat) : Int)) (fun c21 => ?_) (fun c21 => ?_)
  · have hs := hs.2 c21
    refine am_iload_n dX7_lengthRange_64 1 rfl ?_
    refine am_iload_n dX7_lengthRange_65 2 rfl ?_
    refine am_isub dX7_lengthRange_66 ?_
    rw [show (fX7_lengthRange m ) = (r19.2.1 - r19.2.2) from bnd_eq e20 (ifn c21 (rfl))]
    exact am_ireturn dX7_lengthRange_67 rfl rfl ⟨rfl, rfl⟩
  · have hs := hs.1 c21
    refine am_iconst (v := (-1)) dX7_lengthRange_60 (by decide) ?_
    refine am_goto dX7_lengthRange_61 (by decide : ((61 : Nat) : Int) + (6) = ((67 : Nat) : Int)) ?_
    rw [show (fX7_lengthRange m ) = (-1) from bnd_eq e20 (ifp c21 (rfl))]
    exact am_ireturn dX7_lengthRange_67 rfl rfl ⟨rfl, rfl⟩

theorem dX7_areTwo_0 : decode cX7_areTwo 0 = .ok (.aload_n 0, 1) := by decide +kernel
theorem dX7_areTwo_1 : decode cX7_areTwo 1 = .ok (.iload_n 1, 1) := by decide +kernel
theorem dX7_areTwo_2 : decode cX7_areTwo 2 = .ok (.invokevirtual 150, 3) := by decide +kernel
theorem dX7_areTwo_5 : decode cX7_areTwo 5 = .ok (.ifCond .eq 20, 3) := by decide +kernel
theorem dX7_areTwo_8 : decode cX7_areTwo 8 = .ok (.aload_n 0, 1) := by decide +kernel
theorem dX7_areTwo_9 : decode cX7_areTwo 9 = .ok (.iload_n 2, 1) := by decide +kernel
theorem dX7_areTwo_10 : decode cX7_areTwo 10 = .ok (.invokevirtual 150, 3) := by decide +kernel
theorem dX7_areTwo_13 : decode cX7_areTwo 13 = .ok (.ifCond .eq 12, 3) := by decide +kernel
theorem dX7_areTwo_16 : decode cX7_areTwo 16 = .ok (.iload_n 1, 1) := by decide +kernel
theorem dX7_areTwo_17 : decode cX7_areTwo 17 = .ok (.iload_n 2, 1) := by decide +kernel
theorem dX7_areTwo_18 : decode cX7_areTwo 18 = .ok (.if_icmp .eq 7, 3) := by decide +kernel
theorem dX7_areTwo_21 : decode cX7_areTwo 21 = .ok (.iconst 1, 1) := by decide +kernel
theorem dX7_areTwo_22 : decode cX7_areTwo 22 = .ok (.goto 4, 3) := by decide +kernel
theorem dX7_areTwo_25 : decode cX7_areTwo 25 = .ok (.iconst 0, 1) := by decide +kernel
theorem dX7_areTwo_26 : decode cX7_areTwo 26 = .ok (.ireturn, 1) := by decide +kernel
def fX7_areTwo (m : Md) (z1 : Int32) (z2 : Int32) : Int32 := (if (fX7_isPiece m z1) = 0 then 0 else (if (fX7_isPiece m z2) = 0 then 0 else (if z1 = z2 then 0 else 1)))
def sX7_areTwo (m : Md) (z1 : Int32) (z2 : Int32) : Prop := ((sX7_isPiece m z1) ∧ (((fX7_isPiece m z1) = 0 → True) ∧ (¬ (fX7_isPiece m z1) = 0 → ((sX7_isPiece m z2) ∧ (((fX7_isPiece m z2) = 0 → True) ∧ (¬ (fX7_isPiece m z2) = 0 → ((z1 = z2 → True) ∧ (¬ z1 = z2 → True))))))))
set_option maxRecDepth 20000 in
theorem ctX7_areTwo {l : Launch} {G : GM} {K : Nat → Option va_E} {h : List va_E} {m : Md} (hm : HM G K h m) (z1 : Int32) (z2 : Int32) (hs : sX7_areTwo m z1 z2) : Ct l G mX7_areTwo 2 0 0 [.ref (gz G + 221), .int z1, .int z2] h (fun v h1 => v = some (.int (fX7_areTwo m z1 z2)) ∧ h1 = h) := by
  show Tr l G mX7_areTwo 2 0 0 0 [(0, .ref (gz G + 221)), (1, .int z1), (2, .int z2)] [] h _
  unfold sX7_areTwo at hs
  refine am_aload_n dX7_areTwo_0 0 rfl ?_
  refine am_iload_n dX7_areTwo_1 1 rfl ?_
  obtain ⟨i1, hs⟩ := hs
  refine am_callV (As := [.int z1]) (rest := []) dX7_areTwo_2 kMX7_150 rfl (hmc221 (m := m) hm) rfl rfl (Nat.le_of_ble_eq_true rfl) (d2 := 1) (by decide) (k2 := 0) (Nat.zero_le _) (u2 := 0) (Nat.zero_le _) (Nat.le_of_ble_eq_true rfl) (ctX7_isPiece (m := m) hm z1 i1) (fun v2 h3 q4 => ?_)
  obtain ⟨rfl, rfl⟩ := q4
  refine am_if_eq dX7_areTwo_5 (by decide : ((5 : Nat) : Int) + (20) = ((25 : Nat) : Int)) (fun c5 => ?_) (fun c5 => ?_)
  · have hs := hs.1 c5
    refine am_iconst (v := 0) dX7_areTwo_25 (by decide) ?_
    rw [show (fX7_areTwo m z1 z2) = 0 from ifp c5 (rfl)]
    exact am_ireturn dX7_areTwo_26 rfl rfl ⟨rfl, rfl⟩
  · have hs := hs.2 c5
    refine am_aload_n dX7_areTwo_8 0 rfl ?_
    refine am_iload_n dX7_areTwo_9 2 rfl ?_
    obtain ⟨i6, hs⟩ := hs
    refine am_callV (As := [.int z2]) (rest := []) dX7_areTwo_10 kMX7_150 rfl (hmc221 (m := m) hm) rfl rfl (Nat.le_of_ble_eq_true rfl) (d2 := 1) (by decide) (k2 := 0) (Nat.zero_le _) (u2 := 0) (Nat.zero_le _) (Nat.le_of_ble_eq_true rfl) (ctX7_isPiece (m := m) hm z2 i6) (fun v7 h8 q9 => ?_)
    obtain ⟨rfl, rfl⟩ := q9
    refine am_if_eq dX7_areTwo_13 (by decide : ((13 : Nat) : Int) + (12) = ((25 : Nat) : Int)) (fun c10 => ?_) (fun c10 => ?_)
    · have hs := hs.1 c10
      refine am_iconst (v := 0) dX7_areTwo_25 (by decide) ?_
      rw [show (fX7_areTwo m z1 z2) = 0 from ifn c5 (ifp c10 (rfl))]
      exact am_ireturn dX7_areTwo_26 rfl rfl ⟨rfl, rfl⟩
    · have hs := hs.2 c10
      refine am_iload_n dX7_areTwo_16 1 rfl ?_
      refine am_iload_n dX7_areTwo_17 2 rfl ?_
      refine am_icmp_eq dX7_areTwo_18 (by decide : ((18 : Nat) : Int) + (7) = ((25 : Nat) : Int)) (fun c11 => ?_) (fun c11 => ?_)
      · have hs := hs.1 c11
        refine am_iconst (v := 0) dX7_areTwo_25 (by decide) ?_
        rw [show (fX7_areTwo m z1 z2) = 0 from ifn c5 (ifn c10 (ifp c11 (rfl)))]
        exact am_ireturn dX7_areTwo_26 rfl rfl ⟨rfl, rfl⟩
      · have hs := hs.2 c11
        refine am_iconst (v := 1) dX7_areTwo_21 (by decide) ?_
        refine am_goto dX7_areTwo_22 (by decide : ((22 : Nat) : Int) + (4) = ((26 : Nat) : Int)) ?_
        rw [show (fX7_areTwo m z1 z2) = 1 from ifn c5 (ifn c10 (ifn c11 (rfl)))]
        exact am_ireturn dX7_areTwo_26 rfl rfl ⟨rfl, rfl⟩

theorem dX7_isMatch_0 : decode cX7_isMatch 0 = .ok (.aload_n 0, 1) := by decide +kernel
theorem dX7_isMatch_1 : decode cX7_isMatch 1 = .ok (.iload_n 1, 1) := by decide +kernel
theorem dX7_isMatch_2 : decode cX7_isMatch 2 = .ok (.iload_n 2, 1) := by decide +kernel
theorem dX7_isMatch_3 : decode cX7_isMatch 3 = .ok (.invokevirtual 167, 3) := by decide +kernel
theorem dX7_isMatch_6 : decode cX7_isMatch 6 = .ok (.ifCond .ne 6, 3) := by decide +kernel
theorem dX7_isMatch_9 : decode cX7_isMatch 9 = .ok (.bipush (-2), 2) := by decide +kernel
theorem dX7_isMatch_11 : decode cX7_isMatch 11 = .ok (.ireturn, 1) := by decide +kernel
theorem dX7_isMatch_12 : decode cX7_isMatch 12 = .ok (.aload_n 0, 1) := by decide +kernel
theorem dX7_isMatch_13 : decode cX7_isMatch 13 = .ok (.iload_n 1, 1) := by decide +kernel
theorem dX7_isMatch_14 : decode cX7_isMatch 14 = .ok (.iload_n 2, 1) := by decide +kernel
theorem dX7_isMatch_15 : decode cX7_isMatch 15 = .ok (.invokevirtual 101, 3) := by decide +kernel
theorem dX7_isMatch_18 : decode cX7_isMatch 18 = .ok (.ifCond .eq 7, 3) := by decide +kernel
theorem dX7_isMatch_21 : decode cX7_isMatch 21 = .ok (.iconst 1, 1) := by decide +kernel
theorem dX7_isMatch_22 : decode cX7_isMatch 22 = .ok (.goto 4, 3) := by decide +kernel
theorem dX7_isMatch_25 : decode cX7_isMatch 25 = .ok (.iconst 0, 1) := by decide +kernel
theorem dX7_isMatch_26 : decode cX7_isMatch 26 = .ok (.ireturn, 1) := by decide +kernel
def fX7_isMatch (m : Md) (z1 : Int32) (z2 : Int32) : Int32 := (if (fX7_areTwo m z1 z2) = 0 then (-2) else (if (fX7_areMatch m z1 z2) = 0 then 0 else 1))
def sX7_isMatch (m : Md) (z1 : Int32) (z2 : Int32) : Prop := ((sX7_areTwo m z1 z2) ∧ (((fX7_areTwo m z1 z2) = 0 → True) ∧ (¬ (fX7_areTwo m z1 z2) = 0 → ((sX7_areMatch m z1 z2) ∧ (((fX7_areMatch m z1 z2) = 0 → True) ∧ (¬ (fX7_areMatch m z1 z2) = 0 → True))))))
set_option maxRecDepth 20000 in
theorem ctX7_isMatch {l : Launch} {G : GM} {K : Nat → Option va_E} {h : List va_E} {m : Md} (hm : HM G K h m) (z1 : Int32) (z2 : Int32) (hs : sX7_isMatch m z1 z2) : Ct l G mX7_isMatch 4 0 0 [.ref (gz G + 221), .int z1, .int z2] h (fun v h1 => v = some (.int (fX7_isMatch m z1 z2)) ∧ h1 = h) := by
  show Tr l G mX7_isMatch 4 0 0 0 [(0, .ref (gz G + 221)), (1, .int z1), (2, .int z2)] [] h _
  unfold sX7_isMatch at hs
  refine am_aload_n dX7_isMatch_0 0 rfl ?_
  refine am_iload_n dX7_isMatch_1 1 rfl ?_
  refine am_iload_n dX7_isMatch_2 2 rfl ?_
  obtain ⟨i1, hs⟩ := hs
  refine am_callV (As := [.int z1, .int z2]) (rest := []) dX7_isMatch_3 kMX7_167 rfl (hmc221 (m := m) hm) rfl rfl (Nat.le_of_ble_eq_true rfl) (d2 := 2) (by decide) (k2 := 0) (Nat.zero_le _) (u2 := 0) (Nat.zero_le _) (Nat.le_of_ble_eq_true rfl) (ctX7_areTwo (m := m) hm z1 z2 i1) (fun v2 h3 q4 => ?_)
  obtain ⟨rfl, rfl⟩ := q4
  refine am_if_ne dX7_isMatch_6 (by decide : ((6 : Nat) : Int) + (6) = ((12 : Nat) : Int)) (fun c5 => ?_) (fun c5 => ?_)
  · have hs := hs.2 c5
    refine am_aload_n dX7_isMatch_12 0 rfl ?_
    refine am_iload_n dX7_isMatch_13 1 rfl ?_
    refine am_iload_n dX7_isMatch_14 2 rfl ?_
    obtain ⟨i6, hs⟩ := hs
    refine am_callV (As := [.int z1, .int z2]) (rest := []) dX7_isMatch_15 kMX7_101 rfl (hmc221 (m := m) hm) rfl rfl (Nat.le_of_ble_eq_true rfl) (d2 := 3) (by decide) (k2 := 0) (Nat.zero_le _) (u2 := 0) (Nat.zero_le _) (Nat.le_of_ble_eq_true rfl) (ctX7_areMatch (m := m) hm z1 z2 i6) (fun v7 h8 q9 => ?_)
    obtain ⟨rfl, rfl⟩ := q9
    refine am_if_eq dX7_isMatch_18 (by decide : ((18 : Nat) : Int) + (7) = ((25 : Nat) : Int)) (fun c10 => ?_) (fun c10 => ?_)
    · have hs := hs.1 c10
      refine am_iconst (v := 0) dX7_isMatch_25 (by decide) ?_
      rw [show (fX7_isMatch m z1 z2) = 0 from ifn c5 (ifp c10 (rfl))]
      exact am_ireturn dX7_isMatch_26 rfl rfl ⟨rfl, rfl⟩
    · have hs := hs.2 c10
      refine am_iconst (v := 1) dX7_isMatch_21 (by decide) ?_
      refine am_goto dX7_isMatch_22 (by decide : ((22 : Nat) : Int) + (4) = ((26 : Nat) : Int)) ?_
      rw [show (fX7_isMatch m z1 z2) = 1 from ifn c5 (ifn c10 (rfl))]
      exact am_ireturn dX7_isMatch_26 rfl rfl ⟨rfl, rfl⟩
  · have hs := hs.1 c5
    refine am_bipush (v := (-2)) dX7_isMatch_9 (by decide) ?_
    rw [show (fX7_isMatch m z1 z2) = (-2) from ifp c5 (rfl)]
    exact am_ireturn dX7_isMatch_11 rfl rfl ⟨rfl, rfl⟩

theorem dX7_gap_0 : decode cX7_gap 0 = .ok (.aload_n 0, 1) := by decide +kernel
theorem dX7_gap_1 : decode cX7_gap 1 = .ok (.iload_n 1, 1) := by decide +kernel
theorem dX7_gap_2 : decode cX7_gap 2 = .ok (.iload_n 2, 1) := by decide +kernel
theorem dX7_gap_3 : decode cX7_gap 3 = .ok (.invokevirtual 167, 3) := by decide +kernel
theorem dX7_gap_6 : decode cX7_gap 6 = .ok (.ifCond .eq 12, 3) := by decide +kernel
theorem dX7_gap_9 : decode cX7_gap 9 = .ok (.aload_n 0, 1) := by decide +kernel
theorem dX7_gap_10 : decode cX7_gap 10 = .ok (.iload_n 1, 1) := by decide +kernel
theorem dX7_gap_11 : decode cX7_gap 11 = .ok (.iload_n 2, 1) := by decide +kernel
theorem dX7_gap_12 : decode cX7_gap 12 = .ok (.invokevirtual 118, 3) := by decide +kernel
theorem dX7_gap_15 : decode cX7_gap 15 = .ok (.goto 5, 3) := by decide +kernel
theorem dX7_gap_18 : decode cX7_gap 18 = .ok (.bipush (-2), 2) := by decide +kernel
theorem dX7_gap_20 : decode cX7_gap 20 = .ok (.ireturn, 1) := by decide +kernel
def fX7_gap (m : Md) (z1 : Int32) (z2 : Int32) : Int32 := (if (fX7_areTwo m z1 z2) = 0 then (-2) else (fX7_gapOf m z1 z2))
def sX7_gap (m : Md) (z1 : Int32) (z2 : Int32) : Prop := ((sX7_areTwo m z1 z2) ∧ (((fX7_areTwo m z1 z2) = 0 → True) ∧ (¬ (fX7_areTwo m z1 z2) = 0 → ((sX7_gapOf m z1 z2) ∧ True))))
set_option maxRecDepth 20000 in
theorem ctX7_gap {l : Launch} {G : GM} {K : Nat → Option va_E} {h : List va_E} {m : Md} (hm : HM G K h m) (z1 : Int32) (z2 : Int32) (hs : sX7_gap m z1 z2) : Ct l G mX7_gap 3 0 0 [.ref (gz G + 221), .int z1, .int z2] h (fun v h1 => v = some (.int (fX7_gap m z1 z2)) ∧ h1 = h) := by
  show Tr l G mX7_gap 3 0 0 0 [(0, .ref (gz G + 221)), (1, .int z1), (2, .int z2)] [] h _
  unfold sX7_gap at hs
  refine am_aload_n dX7_gap_0 0 rfl ?_
  refine am_iload_n dX7_gap_1 1 rfl ?_
  refine am_iload_n dX7_gap_2 2 rfl ?_
  obtain ⟨i1, hs⟩ := hs
  refine am_callV (As := [.int z1, .int z2]) (rest := []) dX7_gap_3 kMX7_167 rfl (hmc221 (m := m) hm) rfl rfl (Nat.le_of_ble_eq_true rfl) (d2 := 2) (by decide) (k2 := 0) (Nat.zero_le _) (u2 := 0) (Nat.zero_le _) (Nat.le_of_ble_eq_true rfl) (ctX7_areTwo (m := m) hm z1 z2 i1) (fun v2 h3 q4 => ?_)
  obtain ⟨rfl, rfl⟩ := q4
  refine am_if_eq dX7_gap_6 (by decide : ((6 : Nat) : Int) + (12) = ((18 : Nat) : Int)) (fun c5 => ?_) (fun c5 => ?_)
  · have hs := hs.1 c5
    refine am_bipush (v := (-2)) dX7_gap_18 (by decide) ?_
    rw [show (fX7_gap m z1 z2) = (-2) from ifp c5 (rfl)]
    exact am_ireturn dX7_gap_20 rfl rfl ⟨rfl, rfl⟩
  · have hs := hs.2 c5
    refine am_aload_n dX7_gap_9 0 rfl ?_
    refine am_iload_n dX7_gap_10 1 rfl ?_
    refine am_iload_n dX7_gap_11 2 rfl ?_
    obtain ⟨i6, hs⟩ := hs
    refine am_callV (As := [.int z1, .int z2]) (rest := []) dX7_gap_12 kMX7_118 rfl (hmc221 (m := m) hm) rfl rfl (Nat.le_of_ble_eq_true rfl) (d2 := 2) (by decide) (k2 := 0) (Nat.zero_le _) (u2 := 0) (Nat.zero_le _) (Nat.le_of_ble_eq_true rfl) (ctX7_gapOf (m := m) hm z1 z2 i6) (fun v7 h8 q9 => ?_)
    obtain ⟨rfl, rfl⟩ := q9
    refine am_goto dX7_gap_15 (by decide : ((15 : Nat) : Int) + (5) = ((20 : Nat) : Int)) ?_
    rw [show (fX7_gap m z1 z2) = (fX7_gapOf m z1 z2) from ifn c5 (rfl)]
    exact am_ireturn dX7_gap_20 rfl rfl ⟨rfl, rfl⟩

theorem dX7_matches_0 : decode cX7_matches 0 = .ok (.aload_n 0, 1) := by decide +kernel
theorem dX7_matches_1 : decode cX7_matches 1 = .ok (.iload_n 1, 1) := by decide +kernel
theorem dX7_matches_2 : decode cX7_matches 2 = .ok (.invokevirtual 150, 3) := by decide +kernel
theorem dX7_matches_5 : decode cX7_matches 5 = .ok (.ifCond .eq 11, 3) := by decide +kernel
theorem dX7_matches_8 : decode cX7_matches 8 = .ok (.aload_n 0, 1) := by decide +kernel
theorem dX7_matches_9 : decode cX7_matches 9 = .ok (.iload_n 1, 1) := by decide +kernel
theorem dX7_matches_10 : decode cX7_matches 10 = .ok (.invokevirtual 107, 3) := by decide +kernel
theorem dX7_matches_13 : decode cX7_matches 13 = .ok (.goto 5, 3) := by decide +kernel
theorem dX7_matches_16 : decode cX7_matches 16 = .ok (.bipush (-2), 2) := by decide +kernel
theorem dX7_matches_18 : decode cX7_matches 18 = .ok (.ireturn, 1) := by decide +kernel
def fX7_matches (m : Md) (z1 : Int32) : Int32 := (if (fX7_isPiece m z1) = 0 then (-2) else (fX7_matchesOf m z1))
def sX7_matches (m : Md) (z1 : Int32) : Prop := ((sX7_isPiece m z1) ∧ (((fX7_isPiece m z1) = 0 → True) ∧ (¬ (fX7_isPiece m z1) = 0 → ((sX7_matchesOf m z1) ∧ True))))
set_option maxRecDepth 20000 in
theorem ctX7_matches {l : Launch} {G : GM} {K : Nat → Option va_E} {h : List va_E} {m : Md} (hm : HM G K h m) (z1 : Int32) (hs : sX7_matches m z1) : Ct l G mX7_matches 5 0 0 [.ref (gz G + 221), .int z1] h (fun v h1 => v = some (.int (fX7_matches m z1)) ∧ h1 = h) := by
  show Tr l G mX7_matches 5 0 0 0 [(0, .ref (gz G + 221)), (1, .int z1)] [] h _
  unfold sX7_matches at hs
  refine am_aload_n dX7_matches_0 0 rfl ?_
  refine am_iload_n dX7_matches_1 1 rfl ?_
  obtain ⟨i1, hs⟩ := hs
  refine am_callV (As := [.int z1]) (rest := []) dX7_matches_2 kMX7_150 rfl (hmc221 (m := m) hm) rfl rfl (Nat.le_of_ble_eq_true rfl) (d2 := 1) (by decide) (k2 := 0) (Nat.zero_le _) (u2 := 0) (Nat.zero_le _) (Nat.le_of_ble_eq_true rfl) (ctX7_isPiece (m := m) hm z1 i1) (fun v2 h3 q4 => ?_)
  obtain ⟨rfl, rfl⟩ := q4
  refine am_if_eq dX7_matches_5 (by decide : ((5 : Nat) : Int) + (11) = ((16 : Nat) : Int)) (fun c5 => ?_) (fun c5 => ?_)
  · have hs := hs.1 c5
    refine am_bipush (v := (-2)) dX7_matches_16 (by decide) ?_
    rw [show (fX7_matches m z1) = (-2) from ifp c5 (rfl)]
    exact am_ireturn dX7_matches_18 rfl rfl ⟨rfl, rfl⟩
  · have hs := hs.2 c5
    refine am_aload_n dX7_matches_8 0 rfl ?_
    refine am_iload_n dX7_matches_9 1 rfl ?_
    obtain ⟨i6, hs⟩ := hs
    refine am_callV (As := [.int z1]) (rest := []) dX7_matches_10 kMX7_107 rfl (hmc221 (m := m) hm) rfl rfl (Nat.le_of_ble_eq_true rfl) (d2 := 4) (by decide) (k2 := 0) (Nat.zero_le _) (u2 := 0) (Nat.zero_le _) (Nat.le_of_ble_eq_true rfl) (ctX7_matchesOf (m := m) hm z1 i6) (fun v7 h8 q9 => ?_)
    obtain ⟨rfl, rfl⟩ := q9
    refine am_goto dX7_matches_13 (by decide : ((13 : Nat) : Int) + (5) = ((18 : Nat) : Int)) ?_
    rw [show (fX7_matches m z1) = (fX7_matchesOf m z1) from ifn c5 (rfl)]
    exact am_ireturn dX7_matches_18 rfl rfl ⟨rfl, rfl⟩

theorem dX7_nearest_0 : decode cX7_nearest 0 = .ok (.aload_n 0, 1) := by decide +kernel
theorem dX7_nearest_1 : decode cX7_nearest 1 = .ok (.iload_n 1, 1) := by decide +kernel
theorem dX7_nearest_2 : decode cX7_nearest 2 = .ok (.invokevirtual 150, 3) := by decide +kernel
theorem dX7_nearest_5 : decode cX7_nearest 5 = .ok (.ifCond .ne 6, 3) := by decide +kernel
theorem dX7_nearest_8 : decode cX7_nearest 8 = .ok (.bipush (-2), 2) := by decide +kernel
theorem dX7_nearest_10 : decode cX7_nearest 10 = .ok (.ireturn, 1) := by decide +kernel
theorem dX7_nearest_11 : decode cX7_nearest 11 = .ok (.iconst (-1), 1) := by decide +kernel
theorem dX7_nearest_12 : decode cX7_nearest 12 = .ok (.istore_n 2, 1) := by decide +kernel
theorem dX7_nearest_13 : decode cX7_nearest 13 = .ok (.iconst 0, 1) := by decide +kernel
theorem dX7_nearest_14 : decode cX7_nearest 14 = .ok (.istore_n 3, 1) := by decide +kernel
theorem dX7_nearest_15 : decode cX7_nearest 15 = .ok (.iload_n 3, 1) := by decide +kernel
theorem dX7_nearest_16 : decode cX7_nearest 16 = .ok (.aload_n 0, 1) := by decide +kernel
theorem dX7_nearest_17 : decode cX7_nearest 17 = .ok (.invokevirtual 85, 3) := by decide +kernel
theorem dX7_nearest_20 : decode cX7_nearest 20 = .ok (.if_icmp .ge 40, 3) := by decide +kernel
theorem dX7_nearest_23 : decode cX7_nearest 23 = .ok (.aload_n 0, 1) := by decide +kernel
theorem dX7_nearest_24 : decode cX7_nearest 24 = .ok (.iload_n 1, 1) := by decide +kernel
theorem dX7_nearest_25 : decode cX7_nearest 25 = .ok (.iload_n 3, 1) := by decide +kernel
theorem dX7_nearest_26 : decode cX7_nearest 26 = .ok (.invokevirtual 101, 3) := by decide +kernel
theorem dX7_nearest_29 : decode cX7_nearest 29 = .ok (.ifCond .eq 25, 3) := by decide +kernel
theorem dX7_nearest_32 : decode cX7_nearest 32 = .ok (.iload_n 2, 1) := by decide +kernel
theorem dX7_nearest_33 : decode cX7_nearest 33 = .ok (.iconst (-1), 1) := by decide +kernel
theorem dX7_nearest_34 : decode cX7_nearest 34 = .ok (.if_icmp .eq 18, 3) := by decide +kernel
theorem dX7_nearest_37 : decode cX7_nearest 37 = .ok (.aload_n 0, 1) := by decide +kernel
theorem dX7_nearest_38 : decode cX7_nearest 38 = .ok (.iload_n 1, 1) := by decide +kernel
theorem dX7_nearest_39 : decode cX7_nearest 39 = .ok (.iload_n 3, 1) := by decide +kernel
theorem dX7_nearest_40 : decode cX7_nearest 40 = .ok (.invokevirtual 118, 3) := by decide +kernel
theorem dX7_nearest_43 : decode cX7_nearest 43 = .ok (.aload_n 0, 1) := by decide +kernel
theorem dX7_nearest_44 : decode cX7_nearest 44 = .ok (.iload_n 1, 1) := by decide +kernel
theorem dX7_nearest_45 : decode cX7_nearest 45 = .ok (.iload_n 2, 1) := by decide +kernel
theorem dX7_nearest_46 : decode cX7_nearest 46 = .ok (.invokevirtual 118, 3) := by decide +kernel
theorem dX7_nearest_49 : decode cX7_nearest 49 = .ok (.if_icmp .ge 5, 3) := by decide +kernel
theorem dX7_nearest_52 : decode cX7_nearest 52 = .ok (.iload_n 3, 1) := by decide +kernel
theorem dX7_nearest_53 : decode cX7_nearest 53 = .ok (.istore_n 2, 1) := by decide +kernel
theorem dX7_nearest_54 : decode cX7_nearest 54 = .ok (.iinc 3 1, 3) := by decide +kernel
theorem dX7_nearest_57 : decode cX7_nearest 57 = .ok (.goto (-42), 3) := by decide +kernel
theorem dX7_nearest_60 : decode cX7_nearest 60 = .ok (.iload_n 2, 1) := by decide +kernel
theorem dX7_nearest_61 : decode cX7_nearest 61 = .ok (.ireturn, 1) := by decide +kernel
def fX7_nearest_15 (z1 : Int32)  (m : Md) : Nat → Int32 → Int32 → Int32 × Int32
  | 0, x3, x2 => (x3, x2)
  | fu + 1, x3, x2 => (if (fX7_count m ) ≤ x3 then (x3, x2) else (if (fX7_areMatch m z1 x3) = 0 then (fX7_nearest_15 z1  m fu (x3 + 1) x2 ) else (if x2 = (-1) then (fX7_nearest_15 z1  m fu (x3 + 1) x3 ) else (if (fX7_gapOf m z1 x2) ≤ (fX7_gapOf m z1 x3) then (fX7_nearest_15 z1  m fu (x3 + 1) x2 ) else (fX7_nearest_15 z1  m fu (x3 + 1) x3 )))))
def sX7_nearest_15 (z1 : Int32)  (m : Md) : Nat → Int32 → Int32 → Prop
  | 0, _, _ => True
  | fu + 1, x3, x2 => (((fX7_count m ) ≤ x3 → True) ∧ (¬ (fX7_count m ) ≤ x3 → ((sX7_areMatch m z1 x3) ∧ (((fX7_areMatch m z1 x3) = 0 → (sX7_nearest_15 z1  m fu (x3 + 1) x2 )) ∧ (¬ (fX7_areMatch m z1 x3) = 0 → ((x2 = (-1) → (sX7_nearest_15 z1  m fu (x3 + 1) x3 )) ∧ (¬ x2 = (-1) → ((sX7_gapOf m z1 x3) ∧ ((sX7_gapOf m z1 x2) ∧ (((fX7_gapOf m z1 x2) ≤ (fX7_gapOf m z1 x3) → (sX7_nearest_15 z1  m fu (x3 + 1) x2 )) ∧ (¬ (fX7_gapOf m z1 x2) ≤ (fX7_gapOf m z1 x3) → (sX7_nearest_15 z1  m fu (x3 + 1) x3 ))))))))))))
set_option maxRecDepth 20000 in
theorem wX7_nearest_15 {l : Launch} {G : GM} {K : Nat → Option va_E} (z1 : Int32)   {h : List va_E} {m : Md} (hm : HM G K h m) {Q : Option Value → List va_E → Prop} : ∀ (fu : Nat) (x3 x2 : Int32) (iv : ivU (fX7_count m ) x3 fu) (hs : sX7_nearest_15 z1  m fu x3 x2 ) (kx : ∀ (r : Int32 × Int32), (fX7_nearest_15 z1  m fu x3 x2 ) = r → Tr l G mX7_nearest 4 0 0 60 [(3, .int r.1), (2, .int r.2), (0, .ref (gz G + 221)), (1, .int z1)] [] h Q), Tr l G mX7_nearest 4 0 0 15 [(3, .int x3), (2, .int x2), (0, .ref (gz G + 221)), (1, .int z1)] [] h Q := by
  intro fu
  induction fu with
  | zero => intro x3 x2 iv; intros; exact absurd iv ivU_0
  | succ fu ih =>
    intro x3 x2 iv hs    kx
    rw [sX7_nearest_15] at hs
    refine am_iload_n dX7_nearest_15 0 rfl ?_
    refine am_aload_n dX7_nearest_16 2 rfl ?_
    refine am_callV (As := []) (rest := [.int x3]) dX7_nearest_17 kMX7_85 rfl (hmc221 (m := m) hm) rfl rfl (Nat.le_of_ble_eq_true rfl) (d2 := 0) (by decide) (k2 := 0) (Nat.zero_le _) (u2 := 0) (Nat.zero_le _) (Nat.le_of_ble_eq_true rfl) (ctX7_count (m := m) hm  ) (fun v6 h7 q8 => ?_)
    obtain ⟨rfl, rfl⟩ := q8
    refine am_icmp_ge dX7_nearest_20 (by decide : ((20 : Nat) : Int) + (40) = ((60 : Nat) : Int)) (fun c9 => ?_) (fun c9 => ?_)
    · have hs := hs.1 c9
      exact kx _ (ifp c9 (rfl))
    · have hs := hs.2 c9
      refine am_aload_n dX7_nearest_23 2 rfl ?_
      refine am_iload_n dX7_nearest_24 3 rfl ?_
      refine am_iload_n dX7_nearest_25 0 rfl ?_
      obtain ⟨i10, hs⟩ := hs
      refine am_callV (As := [.int z1, .int x3]) (rest := []) dX7_nearest_26 kMX7_101 rfl (hmc221 (m := m) hm) rfl rfl (Nat.le_of_ble_eq_true rfl) (d2 := 3) (by decide) (k2 := 0) (Nat.zero_le _) (u2 := 0) (Nat.zero_le _) (Nat.le_of_ble_eq_true rfl) (ctX7_areMatch (m := m) hm z1 x3 i10) (fun v11 h12 q13 => ?_)
      obtain ⟨rfl, rfl⟩ := q13
      refine am_if_eq dX7_nearest_29 (by decide : ((29 : Nat) : Int) + (25) = ((54 : Nat) : Int)) (fun c14 => ?_) (fun c14 => ?_)
      · have hs := hs.1 c14
        refine am_iinc (v := (x3 + 1)) dX7_nearest_54 0 rfl rfl (by decide) (lv' := [(3, .int (x3 + 1)), (2, .int x2), (0, .ref (gz G + 221)), (1, .int z1)]) rfl ?_
        refine am_goto dX7_nearest_57 (by decide : ((57 : Nat) : Int) + (-42) = ((15 : Nat) : Int)) ?_
        exact ih (x3 + 1) x2 (ivU_s c9 iv) hs (fun r e => kx r (Eq.trans (ifn c9 (ifp c14 (rfl))) e))
      · have hs := hs.2 c14
        refine am_iload_n dX7_nearest_32 1 rfl ?_
        refine am_iconst (v := (-1)) dX7_nearest_33 (by decide) ?_
        refine am_icmp_eq dX7_nearest_34 (by decide : ((34 : Nat) : Int) + (18) = ((52 : Nat) : Int)) (fun c15 => ?_) (fun c15 => ?_)
        · have hs := hs.1 c15
          refine am_iload_n dX7_nearest_52 0 rfl ?_
          refine am_istore_n dX7_nearest_53 (by decide) (lv' := [(2, .int x3), (3, .int x3), (0, .ref (gz G + 221)), (1, .int z1)]) rfl ?_
          refine am_iinc (v := (x3 + 1)) dX7_nearest_54 1 rfl rfl (by decide) (lv' := [(3, .int (x3 + 1)), (2, .int x3), (0, .ref (gz G + 221)), (1, .int z1)]) rfl ?_
          refine am_goto dX7_nearest_57 (by decide : ((57 : Nat) : Int) + (-42) = ((15 : Nat) : Int)) ?_
          exact ih (x3 + 1) x3 (ivU_s c9 iv) hs (fun r e => kx r (Eq.trans (ifn c9 (ifn c14 (ifp c15 (rfl)))) e))
        · have hs := hs.2 c15
          refine am_aload_n dX7_nearest_37 2 rfl ?_
          refine am_iload_n dX7_nearest_38 3 rfl ?_
          refine am_iload_n dX7_nearest_39 0 rfl ?_
          obtain ⟨i16, hs⟩ := hs
          refine am_callV (As := [.int z1, .int x3]) (rest := []) dX7_nearest_40 kMX7_118 rfl (hmc221 (m := m) hm) rfl rfl (Nat.le_of_ble_eq_true rfl) (d2 := 2) (by decide) (k2 := 0) (Nat.zero_le _) (u2 := 0) (Nat.zero_le _) (Nat.le_of_ble_eq_true rfl) (ctX7_gapOf (m := m) hm z1 x3 i16) (fun v17 h18 q19 => ?_)
          obtain ⟨rfl, rfl⟩ := q19
          refine am_aload_n dX7_nearest_43 2 rfl ?_
          refine am_iload_n dX7_nearest_44 3 rfl ?_
          refine am_iload_n dX7_nearest_45 1 rfl ?_
          obtain ⟨i20, hs⟩ := hs
          refine am_callV (As := [.int z1, .int x2]) (rest := [.int (fX7_gapOf m z1 x3)]) dX7_nearest_46 kMX7_118 rfl (hmc221 (m := m) hm) rfl rfl (Nat.le_of_ble_eq_true rfl) (d2 := 2) (by decide) (k2 := 0) (Nat.zero_le _) (u2 := 0) (Nat.zero_le _) (Nat.le_of_ble_eq_true rfl) (ctX7_gapOf (m := m) hm z1 x2 i20) (fun v21 h22 q23 => ?_)
          obtain ⟨rfl, rfl⟩ := q23
          refine am_icmp_ge dX7_nearest_49 (by decide : ((49 : Nat) : Int) + (5) = ((54 : Nat) : Int)) (fun c24 => ?_) (fun c24 => ?_)
          · have hs := hs.1 c24
            refine am_iinc (v := (x3 + 1)) dX7_nearest_54 0 rfl rfl (by decide) (lv' := [(3, .int (x3 + 1)), (2, .int x2), (0, .ref (gz G + 221)), (1, .int z1)]) rfl ?_
            refine am_goto dX7_nearest_57 (by decide : ((57 : Nat) : Int) + (-42) = ((15 : Nat) : Int)) ?_
            exact ih (x3 + 1) x2 (ivU_s c9 iv) hs (fun r e => kx r (Eq.trans (ifn c9 (ifn c14 (ifn c15 (ifp c24 (rfl))))) e))
          · have hs := hs.2 c24
            refine am_iload_n dX7_nearest_52 0 rfl ?_
            refine am_istore_n dX7_nearest_53 (by decide) (lv' := [(2, .int x3), (3, .int x3), (0, .ref (gz G + 221)), (1, .int z1)]) rfl ?_
            refine am_iinc (v := (x3 + 1)) dX7_nearest_54 1 rfl rfl (by decide) (lv' := [(3, .int (x3 + 1)), (2, .int x3), (0, .ref (gz G + 221)), (1, .int z1)]) rfl ?_
            refine am_goto dX7_nearest_57 (by decide : ((57 : Nat) : Int) + (-42) = ((15 : Nat) : Int)) ?_
            exact ih (x3 + 1) x3 (ivU_s c9 iv) hs (fun r e => kx r (Eq.trans (ifn c9 (ifn c14 (ifn c15 (ifn c24 (rfl))))) e))
def fX7_nearest (m : Md) (z1 : Int32) : Int32 := (if (fX7_isPiece m z1) = 0 then (-2) else (bnd (fX7_nearest_15 z1  m (fuU (fX7_count m ) 0) 0 (-1) ) (fun r26 => r26.2)))
def sX7_nearest (m : Md) (z1 : Int32) : Prop := ((sX7_isPiece m z1) ∧ (((fX7_isPiece m z1) = 0 → True) ∧ (¬ (fX7_isPiece m z1) = 0 → ((sX7_nearest_15 z1  m (fuU (fX7_count m ) 0) 0 (-1) ) ∧ bnd (fX7_nearest_15 z1  m (fuU (fX7_count m ) 0) 0 (-1) ) (fun r26 => True)))))
set_option maxRecDepth 20000 in
theorem ctX7_nearest {l : Launch} {G : GM} {K : Nat → Option va_E} {h : List va_E} {m : Md} (hm : HM G K h m) (z1 : Int32) (hs : sX7_nearest m z1) : Ct l G mX7_nearest 4 0 0 [.ref (gz G + 221), .int z1] h (fun v h1 => v = some (.int (fX7_nearest m z1)) ∧ h1 = h) := by
  show Tr l G mX7_nearest 4 0 0 0 [(0, .ref (gz G + 221)), (1, .int z1)] [] h _
  unfold sX7_nearest at hs
  refine am_aload_n dX7_nearest_0 0 rfl ?_
  refine am_iload_n dX7_nearest_1 1 rfl ?_
  obtain ⟨i1, hs⟩ := hs
  refine am_callV (As := [.int z1]) (rest := []) dX7_nearest_2 kMX7_150 rfl (hmc221 (m := m) hm) rfl rfl (Nat.le_of_ble_eq_true rfl) (d2 := 1) (by decide) (k2 := 0) (Nat.zero_le _) (u2 := 0) (Nat.zero_le _) (Nat.le_of_ble_eq_true rfl) (ctX7_isPiece (m := m) hm z1 i1) (fun v2 h3 q4 => ?_)
  obtain ⟨rfl, rfl⟩ := q4
  refine am_if_ne dX7_nearest_5 (by decide : ((5 : Nat) : Int) + (6) = ((11 : Nat) : Int)) (fun c5 => ?_) (fun c5 => ?_)
  · have hs := hs.2 c5
    refine am_iconst (v := (-1)) dX7_nearest_11 (by decide) ?_
    refine am_istore_n dX7_nearest_12 (by decide) (lv' := [(2, .int (-1)), (0, .ref (gz G + 221)), (1, .int z1)]) rfl ?_
    refine am_iconst (v := 0) dX7_nearest_13 (by decide) ?_
    refine am_istore_n dX7_nearest_14 (by decide) (lv' := [(3, .int 0), (2, .int (-1)), (0, .ref (gz G + 221)), (1, .int z1)]) rfl ?_
    obtain ⟨i25, hs⟩ := hs
    refine wX7_nearest_15 z1   hm (fuU (fX7_count m ) 0) 0 (-1) ivU_i i25 (fun r26 e27 => ?_)
    have hs := bnd_p e27 hs
    refine am_iload_n dX7_nearest_60 1 rfl ?_
    rw [show (fX7_nearest m z1) = r26.2 from ifn c5 (bnd_eq e27 (rfl))]
    exact am_ireturn dX7_nearest_61 rfl rfl ⟨rfl, rfl⟩
  · have hs := hs.1 c5
    refine am_bipush (v := (-2)) dX7_nearest_8 (by decide) ?_
    rw [show (fX7_nearest m z1) = (-2) from ifp c5 (rfl)]
    exact am_ireturn dX7_nearest_10 rfl rfl ⟨rfl, rfl⟩

theorem dX7_pairCount_0 : decode cX7_pairCount 0 = .ok (.aload_n 0, 1) := by decide +kernel
theorem dX7_pairCount_1 : decode cX7_pairCount 1 = .ok (.invokevirtual 124, 3) := by decide +kernel
theorem dX7_pairCount_4 : decode cX7_pairCount 4 = .ok (.ireturn, 1) := by decide +kernel
def fX7_pairCount (m : Md)  : Int32 × Md := (bnd (fX7_countPairs m ) (fun r5 => (r5.1, r5.2)))
def sX7_pairCount (m : Md)  : Prop := ((sX7_countPairs m ) ∧ (bnd (fX7_countPairs m ) (fun r5 => True)))
set_option maxRecDepth 20000 in
theorem ctX7_pairCount {l : Launch} {G : GM} {K : Nat → Option va_E} {h : List va_E} {m : Md} (hm : HM G K h m)  (hs : sX7_pairCount m ) : Ct l G mX7_pairCount 7 0 0 [.ref (gz G + 221)] h (fun v h1 => ∃ r, (fX7_pairCount m ) = r ∧ v = some (.int r.1) ∧ HM G K h1 r.2) := by
  show Tr l G mX7_pairCount 7 0 0 0 [(0, .ref (gz G + 221))] [] h _
  unfold sX7_pairCount at hs
  refine am_aload_n dX7_pairCount_0 0 rfl ?_
  obtain ⟨i1, hs⟩ := hs
  refine am_callV (As := []) (rest := []) dX7_pairCount_1 kMX7_124 rfl (hmc221 (m := m) hm) rfl rfl (Nat.le_of_ble_eq_true rfl) (d2 := 6) (by decide) (k2 := 0) (Nat.zero_le _) (u2 := 0) (Nat.zero_le _) (Nat.le_of_ble_eq_true rfl) (ctX7_countPairs (m := m) hm  i1) (fun v2 h3 q4 => ?_)
  obtain ⟨r5, e6, rfl, w7⟩ := q4
  have hs := bnd_p e6 hs
  exact am_ireturn dX7_pairCount_4 rfl rfl ⟨_, bnd_eq e6 (rfl), rfl, w7⟩

theorem dX7_pairGap_0 : decode cX7_pairGap 0 = .ok (.ldc 117, 2) := by decide +kernel
theorem dX7_pairGap_2 : decode cX7_pairGap 2 = .ok (.aload_n 0, 1) := by decide +kernel
theorem dX7_pairGap_3 : decode cX7_pairGap 3 = .ok (.invokevirtual 140, 3) := by decide +kernel
theorem dX7_pairGap_6 : decode cX7_pairGap 6 = .ok (.imul, 1) := by decide +kernel
theorem dX7_pairGap_7 : decode cX7_pairGap 7 = .ok (.aload_n 0, 1) := by decide +kernel
theorem dX7_pairGap_8 : decode cX7_pairGap 8 = .ok (.invokevirtual 121, 3) := by decide +kernel
theorem dX7_pairGap_11 : decode cX7_pairGap 11 = .ok (.isub, 1) := by decide +kernel
theorem dX7_pairGap_12 : decode cX7_pairGap 12 = .ok (.ireturn, 1) := by decide +kernel
def fX7_pairGap (m : Md)  : Int32 × Md := (bnd (fX7_layPartners m ) (fun r5 => (bnd (fX7_layWorth r5.2 ) (fun r12 => ((((100000 : Int32) * r5.1) - r12.1), r12.2)))))
def sX7_pairGap (m : Md)  : Prop := ((sX7_layPartners m ) ∧ (bnd (fX7_layPartners m ) (fun r5 => ((sX7_layWorth r5.2 ) ∧ (bnd (fX7_layWorth r5.2 ) (fun r12 => True))))))
set_option maxRecDepth 20000 in
theorem ctX7_pairGap {l : Launch} {G : GM} {K : Nat → Option va_E} {h : List va_E} {m : Md} (hm : HM G K h m)  (hs : sX7_pairGap m ) : Ct l G mX7_pairGap 8 0 0 [.ref (gz G + 221)] h (fun v h1 => ∃ r, (fX7_pairGap m ) = r ∧ v = some (.int r.1) ∧ HM G K h1 r.2) := by
  show Tr l G mX7_pairGap 8 0 0 0 [(0, .ref (gz G + 221))] [] h _
  unfold sX7_pairGap at hs
  refine am_ldc (v := 100000) dX7_pairGap_0 kKX7_117 ?_
  refine am_aload_n dX7_pairGap_2 0 rfl ?_
  obtain ⟨i1, hs⟩ := hs
  refine am_callV (As := []) (rest := [.int 100000]) dX7_pairGap_3 kMX7_140 rfl (hmc221 (m := m) hm) rfl rfl (Nat.le_of_ble_eq_true rfl) (d2 := 7) (by decide) (k2 := 0) (Nat.zero_le _) (u2 := 0) (Nat.zero_le _) (Nat.le_of_ble_eq_true rfl) (ctX7_layPartners (m := m) hm  i1) (fun v2 h3 q4 => ?_)
  obtain ⟨r5, e6, rfl, w7⟩ := q4
  have hs := bnd_p e6 hs
  refine am_imul dX7_pairGap_6 ?_
  refine am_aload_n dX7_pairGap_7 0 rfl ?_
  obtain ⟨i8, hs⟩ := hs
  refine am_callV (As := []) (rest := [.int ((100000 : Int32) * r5.1)]) dX7_pairGap_8 kMX7_121 rfl (hmc221 (m := r5.2) w7) rfl rfl (Nat.le_of_ble_eq_true rfl) (d2 := 5) (by decide) (k2 := 0) (Nat.zero_le _) (u2 := 0) (Nat.zero_le _) (Nat.le_of_ble_eq_true rfl) (ctX7_layWorth (m := r5.2) w7  i8) (fun v9 h10 q11 => ?_)
  obtain ⟨r12, e13, rfl, w14⟩ := q11
  have hs := bnd_p e13 hs
  refine am_isub dX7_pairGap_11 ?_
  exact am_ireturn dX7_pairGap_12 rfl rfl ⟨_, bnd_eq e6 (bnd_eq e13 (rfl)), rfl, w14⟩

theorem dX7_partner_0 : decode cX7_partner 0 = .ok (.aload_n 0, 1) := by decide +kernel
theorem dX7_partner_1 : decode cX7_partner 1 = .ok (.iload_n 1, 1) := by decide +kernel
theorem dX7_partner_2 : decode cX7_partner 2 = .ok (.invokevirtual 150, 3) := by decide +kernel
theorem dX7_partner_5 : decode cX7_partner 5 = .ok (.ifCond .ne 6, 3) := by decide +kernel
theorem dX7_partner_8 : decode cX7_partner 8 = .ok (.bipush (-2), 2) := by decide +kernel
theorem dX7_partner_10 : decode cX7_partner 10 = .ok (.ireturn, 1) := by decide +kernel
theorem dX7_partner_11 : decode cX7_partner 11 = .ok (.aload_n 0, 1) := by decide +kernel
theorem dX7_partner_12 : decode cX7_partner 12 = .ok (.invokevirtual 140, 3) := by decide +kernel
theorem dX7_partner_15 : decode cX7_partner 15 = .ok (.istore_n 2, 1) := by decide +kernel
theorem dX7_partner_16 : decode cX7_partner 16 = .ok (.aload_n 0, 1) := by decide +kernel
theorem dX7_partner_17 : decode cX7_partner 17 = .ok (.getfield 32, 3) := by decide +kernel
theorem dX7_partner_20 : decode cX7_partner 20 = .ok (.iload_n 1, 1) := by decide +kernel
theorem dX7_partner_21 : decode cX7_partner 21 = .ok (.iaload, 1) := by decide +kernel
theorem dX7_partner_22 : decode cX7_partner 22 = .ok (.ireturn, 1) := by decide +kernel
def fX7_partner (m : Md) (z1 : Int32) : Int32 × Md := (if (fX7_isPiece m z1) = 0 then ((-2), m) else (bnd (fX7_layPartners m ) (fun r10 => (((r10.2.2.1 5) z1.toNatClampNeg), r10.2))))
def sX7_partner (m : Md) (z1 : Int32) : Prop := ((sX7_isPiece m z1) ∧ (((fX7_isPiece m z1) = 0 → True) ∧ (¬ (fX7_isPiece m z1) = 0 → ((sX7_layPartners m ) ∧ (bnd (fX7_layPartners m ) (fun r10 => (vp_in z1 14 ∧ True)))))))
set_option maxRecDepth 20000 in
theorem ctX7_partner {l : Launch} {G : GM} {K : Nat → Option va_E} {h : List va_E} {m : Md} (hm : HM G K h m) (z1 : Int32) (hs : sX7_partner m z1) : Ct l G mX7_partner 8 0 0 [.ref (gz G + 221), .int z1] h (fun v h1 => ∃ r, (fX7_partner m z1) = r ∧ v = some (.int r.1) ∧ HM G K h1 r.2) := by
  show Tr l G mX7_partner 8 0 0 0 [(0, .ref (gz G + 221)), (1, .int z1)] [] h _
  unfold sX7_partner at hs
  refine am_aload_n dX7_partner_0 0 rfl ?_
  refine am_iload_n dX7_partner_1 1 rfl ?_
  obtain ⟨i1, hs⟩ := hs
  refine am_callV (As := [.int z1]) (rest := []) dX7_partner_2 kMX7_150 rfl (hmc221 (m := m) hm) rfl rfl (Nat.le_of_ble_eq_true rfl) (d2 := 1) (by decide) (k2 := 0) (Nat.zero_le _) (u2 := 0) (Nat.zero_le _) (Nat.le_of_ble_eq_true rfl) (ctX7_isPiece (m := m) hm z1 i1) (fun v2 h3 q4 => ?_)
  obtain ⟨rfl, rfl⟩ := q4
  refine am_if_ne dX7_partner_5 (by decide : ((5 : Nat) : Int) + (6) = ((11 : Nat) : Int)) (fun c5 => ?_) (fun c5 => ?_)
  · have hs := hs.2 c5
    refine am_aload_n dX7_partner_11 0 rfl ?_
    obtain ⟨i6, hs⟩ := hs
    refine am_callV (As := []) (rest := []) dX7_partner_12 kMX7_140 rfl (hmc221 (m := m) hm) rfl rfl (Nat.le_of_ble_eq_true rfl) (d2 := 7) (by decide) (k2 := 0) (Nat.zero_le _) (u2 := 0) (Nat.zero_le _) (Nat.le_of_ble_eq_true rfl) (ctX7_layPartners (m := m) hm  i6) (fun v7 h8 q9 => ?_)
    obtain ⟨r10, e11, rfl, w12⟩ := q9
    have hs := bnd_p e11 hs
    refine am_istore_n dX7_partner_15 (by decide) (lv' := [(2, .int r10.1), (0, .ref (gz G + 221)), (1, .int z1)]) rfl ?_
    refine am_aload_n dX7_partner_16 1 rfl ?_
    refine am_get (v := .ref (gz G + 227)) dX7_partner_17 kGX7_32 (hmc221 (m := r10.2) w12) rfl ?_
    refine am_iload_n dX7_partner_20 2 rfl ?_
    obtain ⟨i13, hs⟩ := hs
    refine am_iald (f := (r10.2.2.1 5)) dX7_partner_21 (hmc227 (m := r10.2) w12) i13 ?_
    exact am_ireturn dX7_partner_22 rfl rfl ⟨_, ifn c5 (bnd_eq e11 (rfl)), rfl, w12⟩
  · have hs := hs.1 c5
    refine am_bipush (v := (-2)) dX7_partner_8 (by decide) ?_
    exact am_ireturn dX7_partner_10 rfl rfl ⟨_, ifp c5 (rfl), rfl, hm⟩

theorem dX7_pair_0 : decode cX7_pair 0 = .ok (.iload_n 1, 1) := by decide +kernel
theorem dX7_pair_1 : decode cX7_pair 1 = .ok (.ifCond .ge 6, 3) := by decide +kernel
theorem dX7_pair_4 : decode cX7_pair 4 = .ok (.bipush (-2), 2) := by decide +kernel
theorem dX7_pair_6 : decode cX7_pair 6 = .ok (.ireturn, 1) := by decide +kernel
theorem dX7_pair_7 : decode cX7_pair 7 = .ok (.aload_n 0, 1) := by decide +kernel
theorem dX7_pair_8 : decode cX7_pair 8 = .ok (.invokevirtual 140, 3) := by decide +kernel
theorem dX7_pair_11 : decode cX7_pair 11 = .ok (.istore_n 2, 1) := by decide +kernel
theorem dX7_pair_12 : decode cX7_pair 12 = .ok (.aload_n 0, 1) := by decide +kernel
theorem dX7_pair_13 : decode cX7_pair 13 = .ok (.iload_n 1, 1) := by decide +kernel
theorem dX7_pair_14 : decode cX7_pair 14 = .ok (.invokevirtual 170, 3) := by decide +kernel
theorem dX7_pair_17 : decode cX7_pair 17 = .ok (.istore_n 3, 1) := by decide +kernel
theorem dX7_pair_18 : decode cX7_pair 18 = .ok (.iload_n 3, 1) := by decide +kernel
theorem dX7_pair_19 : decode cX7_pair 19 = .ok (.iconst (-1), 1) := by decide +kernel
theorem dX7_pair_20 : decode cX7_pair 20 = .ok (.if_icmp .ne 7, 3) := by decide +kernel
theorem dX7_pair_23 : decode cX7_pair 23 = .ok (.iconst (-1), 1) := by decide +kernel
theorem dX7_pair_24 : decode cX7_pair 24 = .ok (.goto 14, 3) := by decide +kernel
theorem dX7_pair_27 : decode cX7_pair 27 = .ok (.bipush 16, 2) := by decide +kernel
theorem dX7_pair_29 : decode cX7_pair 29 = .ok (.iload_n 3, 1) := by decide +kernel
theorem dX7_pair_30 : decode cX7_pair 30 = .ok (.imul, 1) := by decide +kernel
theorem dX7_pair_31 : decode cX7_pair 31 = .ok (.aload_n 0, 1) := by decide +kernel
theorem dX7_pair_32 : decode cX7_pair 32 = .ok (.getfield 32, 3) := by decide +kernel
theorem dX7_pair_35 : decode cX7_pair 35 = .ok (.iload_n 3, 1) := by decide +kernel
theorem dX7_pair_36 : decode cX7_pair 36 = .ok (.iaload, 1) := by decide +kernel
theorem dX7_pair_37 : decode cX7_pair 37 = .ok (.iadd, 1) := by decide +kernel
theorem dX7_pair_38 : decode cX7_pair 38 = .ok (.ireturn, 1) := by decide +kernel
def fX7_pair (m : Md) (z1 : Int32) : Int32 × Md := (if 0 ≤ z1 then (bnd (fX7_layPartners m ) (fun r6 => (if (fX7_pairAt r6.2 z1) = (-1) then ((-1), r6.2) else ((((16 : Int32) * (fX7_pairAt r6.2 z1)) + ((r6.2.2.1 5) (fX7_pairAt r6.2 z1).toNatClampNeg)), r6.2)))) else ((-2), m))
def sX7_pair (m : Md) (z1 : Int32) : Prop := ((0 ≤ z1 → ((sX7_layPartners m ) ∧ (bnd (fX7_layPartners m ) (fun r6 => ((sX7_pairAt r6.2 z1) ∧ (((fX7_pairAt r6.2 z1) = (-1) → True) ∧ (¬ (fX7_pairAt r6.2 z1) = (-1) → (vp_in (fX7_pairAt r6.2 z1) 14 ∧ True)))))))) ∧ (¬ 0 ≤ z1 → True))
set_option maxRecDepth 20000 in
theorem ctX7_pair {l : Launch} {G : GM} {K : Nat → Option va_E} {h : List va_E} {m : Md} (hm : HM G K h m) (z1 : Int32) (hs : sX7_pair m z1) : Ct l G mX7_pair 8 0 0 [.ref (gz G + 221), .int z1] h (fun v h1 => ∃ r, (fX7_pair m z1) = r ∧ v = some (.int r.1) ∧ HM G K h1 r.2) := by
  show Tr l G mX7_pair 8 0 0 0 [(0, .ref (gz G + 221)), (1, .int z1)] [] h _
  unfold sX7_pair at hs
  refine am_iload_n dX7_pair_0 1 rfl ?_
  refine am_if_ge dX7_pair_1 (by decide : ((1 : Nat) : Int) + (6) = ((7 : Nat) : Int)) (fun c1 => ?_) (fun c1 => ?_)
  · have hs := hs.1 c1
    refine am_aload_n dX7_pair_7 0 rfl ?_
    obtain ⟨i2, hs⟩ := hs
    refine am_callV (As := []) (rest := []) dX7_pair_8 kMX7_140 rfl (hmc221 (m := m) hm) rfl rfl (Nat.le_of_ble_eq_true rfl) (d2 := 7) (by decide) (k2 := 0) (Nat.zero_le _) (u2 := 0) (Nat.zero_le _) (Nat.le_of_ble_eq_true rfl) (ctX7_layPartners (m := m) hm  i2) (fun v3 h4 q5 => ?_)
    obtain ⟨r6, e7, rfl, w8⟩ := q5
    have hs := bnd_p e7 hs
    refine am_istore_n dX7_pair_11 (by decide) (lv' := [(2, .int r6.1), (0, .ref (gz G + 221)), (1, .int z1)]) rfl ?_
    refine am_aload_n dX7_pair_12 1 rfl ?_
    refine am_iload_n dX7_pair_13 2 rfl ?_
    obtain ⟨i9, hs⟩ := hs
    refine am_callV (As := [.int z1]) (rest := []) dX7_pair_14 kMX7_170 rfl (hmc221 (m := r6.2) w8) rfl rfl (Nat.le_of_ble_eq_true rfl) (d2 := 1) (by decide) (k2 := 0) (Nat.zero_le _) (u2 := 0) (Nat.zero_le _) (Nat.le_of_ble_eq_true rfl) (ctX7_pairAt (m := r6.2) w8 z1 i9) (fun v10 h11 q12 => ?_)
    obtain ⟨rfl, rfl⟩ := q12
    refine am_istore_n dX7_pair_17 (by decide) (lv' := [(3, .int (fX7_pairAt r6.2 z1)), (2, .int r6.1), (0, .ref (gz G + 221)), (1, .int z1)]) rfl ?_
    refine am_iload_n dX7_pair_18 0 rfl ?_
    refine am_iconst (v := (-1)) dX7_pair_19 (by decide) ?_
    refine am_icmp_ne dX7_pair_20 (by decide : ((20 : Nat) : Int) + (7) = ((27 : Nat) : Int)) (fun c13 => ?_) (fun c13 => ?_)
    · have hs := hs.2 c13
      refine am_bipush (v := 16) dX7_pair_27 (by decide) ?_
      refine am_iload_n dX7_pair_29 0 rfl ?_
      refine am_imul dX7_pair_30 ?_
      refine am_aload_n dX7_pair_31 2 rfl ?_
      refine am_get (v := .ref (gz G + 227)) dX7_pair_32 kGX7_32 (hmc221 (m := r6.2) w8) rfl ?_
      refine am_iload_n dX7_pair_35 0 rfl ?_
      obtain ⟨i14, hs⟩ := hs
      refine am_iald (f := (r6.2.2.1 5)) dX7_pair_36 (hmc227 (m := r6.2) w8) i14 ?_
      refine am_iadd dX7_pair_37 ?_
      exact am_ireturn dX7_pair_38 rfl rfl ⟨_, ifp c1 (bnd_eq e7 (ifn c13 (rfl))), rfl, w8⟩
    · have hs := hs.1 c13
      refine am_iconst (v := (-1)) dX7_pair_23 (by decide) ?_
      refine am_goto dX7_pair_24 (by decide : ((24 : Nat) : Int) + (14) = ((38 : Nat) : Int)) ?_
      exact am_ireturn dX7_pair_38 rfl rfl ⟨_, ifp c1 (bnd_eq e7 (ifp c13 (rfl))), rfl, w8⟩
  · have hs := hs.2 c1
    refine am_bipush (v := (-2)) dX7_pair_4 (by decide) ?_
    exact am_ireturn dX7_pair_6 rfl rfl ⟨_, ifn c1 (rfl), rfl, hm⟩

theorem dX7_pairSize_0 : decode cX7_pairSize 0 = .ok (.iload_n 1, 1) := by decide +kernel
theorem dX7_pairSize_1 : decode cX7_pairSize 1 = .ok (.ifCond .ge 6, 3) := by decide +kernel
theorem dX7_pairSize_4 : decode cX7_pairSize 4 = .ok (.bipush (-2), 2) := by decide +kernel
theorem dX7_pairSize_6 : decode cX7_pairSize 6 = .ok (.ireturn, 1) := by decide +kernel
theorem dX7_pairSize_7 : decode cX7_pairSize 7 = .ok (.aload_n 0, 1) := by decide +kernel
theorem dX7_pairSize_8 : decode cX7_pairSize 8 = .ok (.invokevirtual 140, 3) := by decide +kernel
theorem dX7_pairSize_11 : decode cX7_pairSize 11 = .ok (.istore_n 2, 1) := by decide +kernel
theorem dX7_pairSize_12 : decode cX7_pairSize 12 = .ok (.aload_n 0, 1) := by decide +kernel
theorem dX7_pairSize_13 : decode cX7_pairSize 13 = .ok (.iload_n 1, 1) := by decide +kernel
theorem dX7_pairSize_14 : decode cX7_pairSize 14 = .ok (.invokevirtual 170, 3) := by decide +kernel
theorem dX7_pairSize_17 : decode cX7_pairSize 17 = .ok (.istore_n 3, 1) := by decide +kernel
theorem dX7_pairSize_18 : decode cX7_pairSize 18 = .ok (.iload_n 3, 1) := by decide +kernel
theorem dX7_pairSize_19 : decode cX7_pairSize 19 = .ok (.iconst (-1), 1) := by decide +kernel
theorem dX7_pairSize_20 : decode cX7_pairSize 20 = .ok (.if_icmp .ne 7, 3) := by decide +kernel
theorem dX7_pairSize_23 : decode cX7_pairSize 23 = .ok (.iconst (-1), 1) := by decide +kernel
theorem dX7_pairSize_24 : decode cX7_pairSize 24 = .ok (.goto 8, 3) := by decide +kernel
theorem dX7_pairSize_27 : decode cX7_pairSize 27 = .ok (.aload_n 0, 1) := by decide +kernel
theorem dX7_pairSize_28 : decode cX7_pairSize 28 = .ok (.iload_n 3, 1) := by decide +kernel
theorem dX7_pairSize_29 : decode cX7_pairSize 29 = .ok (.invokevirtual 130, 3) := by decide +kernel
theorem dX7_pairSize_32 : decode cX7_pairSize 32 = .ok (.ireturn, 1) := by decide +kernel
def fX7_pairSize (m : Md) (z1 : Int32) : Int32 × Md := (if 0 ≤ z1 then (bnd (fX7_layPartners m ) (fun r6 => (if (fX7_pairAt r6.2 z1) = (-1) then ((-1), r6.2) else ((fX7_sizeOfPair r6.2 (fX7_pairAt r6.2 z1)), r6.2)))) else ((-2), m))
def sX7_pairSize (m : Md) (z1 : Int32) : Prop := ((0 ≤ z1 → ((sX7_layPartners m ) ∧ (bnd (fX7_layPartners m ) (fun r6 => ((sX7_pairAt r6.2 z1) ∧ (((fX7_pairAt r6.2 z1) = (-1) → True) ∧ (¬ (fX7_pairAt r6.2 z1) = (-1) → ((sX7_sizeOfPair r6.2 (fX7_pairAt r6.2 z1)) ∧ True)))))))) ∧ (¬ 0 ≤ z1 → True))
set_option maxRecDepth 20000 in
theorem ctX7_pairSize {l : Launch} {G : GM} {K : Nat → Option va_E} {h : List va_E} {m : Md} (hm : HM G K h m) (z1 : Int32) (hs : sX7_pairSize m z1) : Ct l G mX7_pairSize 8 0 0 [.ref (gz G + 221), .int z1] h (fun v h1 => ∃ r, (fX7_pairSize m z1) = r ∧ v = some (.int r.1) ∧ HM G K h1 r.2) := by
  show Tr l G mX7_pairSize 8 0 0 0 [(0, .ref (gz G + 221)), (1, .int z1)] [] h _
  unfold sX7_pairSize at hs
  refine am_iload_n dX7_pairSize_0 1 rfl ?_
  refine am_if_ge dX7_pairSize_1 (by decide : ((1 : Nat) : Int) + (6) = ((7 : Nat) : Int)) (fun c1 => ?_) (fun c1 => ?_)
  · have hs := hs.1 c1
    refine am_aload_n dX7_pairSize_7 0 rfl ?_
    obtain ⟨i2, hs⟩ := hs
    refine am_callV (As := []) (rest := []) dX7_pairSize_8 kMX7_140 rfl (hmc221 (m := m) hm) rfl rfl (Nat.le_of_ble_eq_true rfl) (d2 := 7) (by decide) (k2 := 0) (Nat.zero_le _) (u2 := 0) (Nat.zero_le _) (Nat.le_of_ble_eq_true rfl) (ctX7_layPartners (m := m) hm  i2) (fun v3 h4 q5 => ?_)
    obtain ⟨r6, e7, rfl, w8⟩ := q5
    have hs := bnd_p e7 hs
    refine am_istore_n dX7_pairSize_11 (by decide) (lv' := [(2, .int r6.1), (0, .ref (gz G + 221)), (1, .int z1)]) rfl ?_
    refine am_aload_n dX7_pairSize_12 1 rfl ?_
    refine am_iload_n dX7_pairSize_13 2 rfl ?_
    obtain ⟨i9, hs⟩ := hs
    refine am_callV (As := [.int z1]) (rest := []) dX7_pairSize_14 kMX7_170 rfl (hmc221 (m := r6.2) w8) rfl rfl (Nat.le_of_ble_eq_true rfl) (d2 := 1) (by decide) (k2 := 0) (Nat.zero_le _) (u2 := 0) (Nat.zero_le _) (Nat.le_of_ble_eq_true rfl) (ctX7_pairAt (m := r6.2) w8 z1 i9) (fun v10 h11 q12 => ?_)
    obtain ⟨rfl, rfl⟩ := q12
    refine am_istore_n dX7_pairSize_17 (by decide) (lv' := [(3, .int (fX7_pairAt r6.2 z1)), (2, .int r6.1), (0, .ref (gz G + 221)), (1, .int z1)]) rfl ?_
    refine am_iload_n dX7_pairSize_18 0 rfl ?_
    refine am_iconst (v := (-1)) dX7_pairSize_19 (by decide) ?_
    refine am_icmp_ne dX7_pairSize_20 (by decide : ((20 : Nat) : Int) + (7) = ((27 : Nat) : Int)) (fun c13 => ?_) (fun c13 => ?_)
    · have hs := hs.2 c13
      refine am_aload_n dX7_pairSize_27 2 rfl ?_
      refine am_iload_n dX7_pairSize_28 0 rfl ?_
      obtain ⟨i14, hs⟩ := hs
      refine am_callV (As := [.int (fX7_pairAt r6.2 z1)]) (rest := []) dX7_pairSize_29 kMX7_130 rfl (hmc221 (m := r6.2) w8) rfl rfl (Nat.le_of_ble_eq_true rfl) (d2 := 2) (by decide) (k2 := 0) (Nat.zero_le _) (u2 := 0) (Nat.zero_le _) (Nat.le_of_ble_eq_true rfl) (ctX7_sizeOfPair (m := r6.2) w8 (fX7_pairAt r6.2 z1) i14) (fun v15 h16 q17 => ?_)
      obtain ⟨rfl, rfl⟩ := q17
      exact am_ireturn dX7_pairSize_32 rfl rfl ⟨_, ifp c1 (bnd_eq e7 (ifn c13 (rfl))), rfl, w8⟩
    · have hs := hs.1 c13
      refine am_iconst (v := (-1)) dX7_pairSize_23 (by decide) ?_
      refine am_goto dX7_pairSize_24 (by decide : ((24 : Nat) : Int) + (8) = ((32 : Nat) : Int)) ?_
      exact am_ireturn dX7_pairSize_32 rfl rfl ⟨_, ifp c1 (bnd_eq e7 (ifp c13 (rfl))), rfl, w8⟩
  · have hs := hs.2 c1
    refine am_bipush (v := (-2)) dX7_pairSize_4 (by decide) ?_
    exact am_ireturn dX7_pairSize_6 rfl rfl ⟨_, ifn c1 (rfl), rfl, hm⟩
