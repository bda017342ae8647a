/-! The model's methods (by program). -/
theorem vp_lit {x : Int32} {n : Nat} (h : ¬ x < 0 ∧ x.toNatClampNeg < n) : vp_in x n := fun q => q.elim h.1 (fun q => Nat.not_le.mpr h.2 q)
theorem tl0 : (0 : Int32).toNatClampNeg = 0 := rfl
theorem tl1 : (1 : Int32).toNatClampNeg = 1 := rfl
theorem tl2 : (2 : Int32).toNatClampNeg = 2 := rfl
theorem tl3 : (3 : Int32).toNatClampNeg = 3 := rfl
theorem tl4 : (4 : Int32).toNatClampNeg = 4 := rfl
theorem tl5 : (5 : Int32).toNatClampNeg = 5 := rfl
theorem tl6 : (6 : Int32).toNatClampNeg = 6 := rfl
theorem tl7 : (7 : Int32).toNatClampNeg = 7 := rfl
theorem tl8 : (8 : Int32).toNatClampNeg = 8 := rfl
def fX7_startPrediction_2   : Nat → Int32 → Md → Int32 × Md
  | 0, x1, y => (x1, y)
  | fu + 1, x1, y => (if 146 ≤ x1 then (x1, y) else (bnd (mA y 2 (upd (y.2.1 2) x1.toNatClampNeg ((y.2.1 0) x1.toNatClampNeg))) (fun r5 => (fX7_startPrediction_2    fu (x1 + 1) r5))))
def sX7_startPrediction_2   : Nat → Int32 → Md → Prop
  | 0, _, _ => True
  | fu + 1, x1, y => ((146 ≤ x1 → True) ∧ (¬ 146 ≤ x1 → (vp_in x1 146 ∧ (vp_in x1 146 ∧ (bnd (mA y 2 (upd (y.2.1 2) x1.toNatClampNeg ((y.2.1 0) x1.toNatClampNeg))) (fun r5 => (sX7_startPrediction_2    fu (x1 + 1) r5)))))))
def fX7_startPrediction (m : Md)  : Md := (bnd (fX7_startPrediction_2    (fuU 146 0) 0 m) (fun r9 => (mN r9.2 2)))
def sX7_startPrediction (m : Md)  : Prop := ((sX7_startPrediction_2    (fuU 146 0) 0 m) ∧ bnd (fX7_startPrediction_2    (fuU 146 0) 0 m) (fun r9 => True))
def fX7_at (z1 : Int32) (z2 : Int32) : Int32 := (((62 : Int32) + ((6 : Int32) * z1)) + z2)
def fX7_field (m : Md) (z1 : Int32) (z2 : Int32) : Int32 := ((m.2.1 (m.2.2)) (fX7_at z1 z2).toNatClampNeg)
def sX7_field (m : Md) (z1 : Int32) (z2 : Int32) : Prop := (vp_in (fX7_at z1 z2) 146 ∧ True)
def fX7_count (m : Md)  : Int32 := ((m.2.1 (m.2.2)) 8)
def fX7_in (z1 : Int64) (z2 : Int64) (z3 : Int64) : Int32 := (if (lg_cmp z1 z2) < 0 then 0 else (if 0 < (lg_cmp z1 z3) then 0 else 1))
def fX7_isPiece (m : Md) (z1 : Int32) : Int32 := (fX7_in (z1.toInt64) 0 ((((m.2.1 0) 8) - 1).toInt64))
def sX7_isPiece (m : Md) (z1 : Int32) : Prop := (narrow .boolean (.int (fX7_in (z1.toInt64) 0 ((((m.2.1 0) 8) - 1).toInt64))) = .int (fX7_in (z1.toInt64) 0 ((((m.2.1 0) 8) - 1).toInt64)) ∧ True)
def fX7_isShape (m : Md) (z1 : Int32) : Int32 := (fX7_in (z1.toInt64) 0 ((((m.2.1 0) 6) - 1).toInt64))
def sX7_isShape (m : Md) (z1 : Int32) : Prop := (narrow .boolean (.int (fX7_in (z1.toInt64) 0 ((((m.2.1 0) 6) - 1).toInt64))) = .int (fX7_in (z1.toInt64) 0 ((((m.2.1 0) 6) - 1).toInt64)) ∧ True)
def fX7_isIn (m : Md) (z1 : Int32) (z2 : Int32) : Int32 := (if (fX7_field m z1 5) = z2 then 1 else 0)
def sX7_isIn (m : Md) (z1 : Int32) (z2 : Int32) : Prop := ((sX7_field m z1 5) ∧ (((fX7_field m z1 5) = z2 → True) ∧ (¬ (fX7_field m z1 5) = z2 → True)))
def fX7_shapeLength (m : Md) (z1 : Int32) : Int32 := ((m.2.1 (m.2.2)) (((28 : Int32) + ((2 : Int32) * z1)) + 1).toNatClampNeg)
def sX7_shapeLength (m : Md) (z1 : Int32) : Prop := (vp_in (((28 : Int32) + ((2 : Int32) * z1)) + 1) 146 ∧ True)
def fX7_limitOf (m : Md) (z1 : Int32) : Int32 := (if (fX7_field m z1 1) = 0 then ((m.2.1 (m.2.2)) (((10 : Int32) + ((3 : Int32) * (fX7_field m z1 0))) + 1).toNatClampNeg) else (if (fX7_field m z1 1) = 1 then (((m.2.1 (m.2.2)) (((10 : Int32) + ((3 : Int32) * (fX7_field m z1 0))) + 1).toNatClampNeg) + 20) else (imx 1 (((m.2.1 (m.2.2)) (((10 : Int32) + ((3 : Int32) * (fX7_field m z1 0))) + 1).toNatClampNeg) - 10))))
def sX7_limitOf (m : Md) (z1 : Int32) : Prop := ((sX7_field m z1 0) ∧ (vp_in (((10 : Int32) + ((3 : Int32) * (fX7_field m z1 0))) + 1) 146 ∧ ((sX7_field m z1 1) ∧ (((fX7_field m z1 1) = 0 → True) ∧ (¬ (fX7_field m z1 1) = 0 → (((fX7_field m z1 1) = 1 → True) ∧ (¬ (fX7_field m z1 1) = 1 → True)))))))
def fX7_longestOf (m : Md) (z1 : Int32) : Int32 := (((fX7_field m z1 3) * ((100 : Int32) + (fX7_limitOf m z1))) / 100)
def sX7_longestOf (m : Md) (z1 : Int32) : Prop := ((sX7_field m z1 3) ∧ ((sX7_limitOf m z1) ∧ True))
def fX7_wouldTear (m : Md) (z1 : Int32) (z2 : Int32) : Int32 := (if (fX7_shapeLength m z2) ≤ (fX7_longestOf m z1) then 0 else 1)
def sX7_wouldTear (m : Md) (z1 : Int32) (z2 : Int32) : Prop := ((sX7_shapeLength m z2) ∧ ((sX7_longestOf m z1) ∧ (((fX7_shapeLength m z2) ≤ (fX7_longestOf m z1) → True) ∧ (¬ (fX7_shapeLength m z2) ≤ (fX7_longestOf m z1) → True))))
def fX7_lengthOn (m : Md) (z1 : Int32) (z2 : Int32) : Int32 := ((fX7_field m z1 3) + ((((fX7_shapeLength m z2) - (fX7_field m z1 3)) * ((m.2.1 (m.2.2)) 2)) / 100))
def sX7_lengthOn (m : Md) (z1 : Int32) (z2 : Int32) : Prop := ((sX7_field m z1 3) ∧ ((sX7_shapeLength m z2) ∧ True))
def fX7_put (m : Md) (z1 : Int32) (z2 : Int32) : Int32 × Md := (if (fX7_wouldTear m z1 z2) = 0 then (bnd (mA m (m.2.2) (upd (m.2.1 (m.2.2)) (fX7_at z1 3).toNatClampNeg (fX7_lengthOn m z1 z2))) (fun r15 => (bnd (mA r15 (r15.2.2) (upd (r15.2.1 (r15.2.2)) (fX7_at z1 5).toNatClampNeg 1)) (fun r23 => (1, r23))))) else (bnd (mA m (m.2.2) (upd (m.2.1 (m.2.2)) (fX7_at z1 5).toNatClampNeg 2)) (fun r31 => (0, r31))))
def sX7_put (m : Md) (z1 : Int32) (z2 : Int32) : Prop := ((sX7_wouldTear m z1 z2) ∧ (((fX7_wouldTear m z1 z2) = 0 → ((sX7_lengthOn m z1 z2) ∧ (vp_in (fX7_at z1 3) 146 ∧ (bnd (mA m (m.2.2) (upd (m.2.1 (m.2.2)) (fX7_at z1 3).toNatClampNeg (fX7_lengthOn m z1 z2))) (fun r15 => (vp_in (fX7_at z1 5) 146 ∧ (bnd (mA r15 (r15.2.2) (upd (r15.2.1 (r15.2.2)) (fX7_at z1 5).toNatClampNeg 1)) (fun r23 => True)))))))) ∧ (¬ (fX7_wouldTear m z1 z2) = 0 → (vp_in (fX7_at z1 5) 146 ∧ (bnd (mA m (m.2.2) (upd (m.2.1 (m.2.2)) (fX7_at z1 5).toNatClampNeg 2)) (fun r31 => True))))))
def fX7_putAll_4 (z1 : Int32)  : Nat → Int32 → Int32 → Md → Int32 × Int32 × Md
  | 0, x3, x2, y => (x3, x2, y)
  | fu + 1, x3, x2, y => (if (fX7_count y ) ≤ x3 then (x3, x2, y) else (if (fX7_isIn y x3 0) = 0 then (fX7_putAll_4 z1   fu (x3 + 1) x2 y) else (bnd (fX7_put y x3 z1) (fun r14 => (if r14.1 = 0 then (fX7_putAll_4 z1   fu (x3 + 1) x2 r14.2) else (fX7_putAll_4 z1   fu (x3 + 1) (x2 + 1) r14.2))))))
def sX7_putAll_4 (z1 : Int32)  : Nat → Int32 → Int32 → Md → Prop
  | 0, _, _, _ => True
  | fu + 1, x3, x2, y => (((fX7_count y ) ≤ x3 → True) ∧ (¬ (fX7_count y ) ≤ x3 → ((sX7_isIn y x3 0) ∧ (((fX7_isIn y x3 0) = 0 → (sX7_putAll_4 z1   fu (x3 + 1) x2 y)) ∧ (¬ (fX7_isIn y x3 0) = 0 → ((sX7_put y x3 z1) ∧ (bnd (fX7_put y x3 z1) (fun r14 => ((r14.1 = 0 → (sX7_putAll_4 z1   fu (x3 + 1) x2 r14.2)) ∧ (¬ r14.1 = 0 → (sX7_putAll_4 z1   fu (x3 + 1) (x2 + 1) r14.2)))))))))))
def fX7_putAll (m : Md) (z1 : Int32) : Int32 × Md := (bnd (fX7_putAll_4 z1   (fuU 2147483647 0) 0 0 m) (fun r19 => (r19.2.1, r19.2.2)))
def sX7_putAll (m : Md) (z1 : Int32) : Prop := ((sX7_putAll_4 z1   (fuU 2147483647 0) 0 0 m) ∧ bnd (fX7_putAll_4 z1   (fuU 2147483647 0) 0 0 m) (fun r19 => True))
def fX7_pass_4   : Nat → Int32 → Int32 → Md → Int32 × Int32 × Md
  | 0, x2, x1, y => (x2, x1, y)
  | fu + 1, x2, x1, y => (if (fX7_count y ) ≤ x2 then (x2, x1, y) else (if (fX7_isIn y x2 1) = 0 then (fX7_pass_4    fu (x2 + 1) x1 y) else (if ((fX7_field y x2 3) - ((((fX7_field y x2 3) - (fX7_field y x2 2)) * ((y.2.1 (y.2.2)) (((10 : Int32) + ((3 : Int32) * (fX7_field y x2 0))) + 2).toNatClampNeg)) / 100)) = (fX7_field y x2 3) then (bnd (mA y (y.2.2) (upd (y.2.1 (y.2.2)) (fX7_at x2 3).toNatClampNeg ((fX7_field y x2 3) - ((((fX7_field y x2 3) - (fX7_field y x2 2)) * ((y.2.1 (y.2.2)) (((10 : Int32) + ((3 : Int32) * (fX7_field y x2 0))) + 2).toNatClampNeg)) / 100)))) (fun r29 => (fX7_pass_4    fu (x2 + 1) (x1 + 0) r29))) else (bnd (mA y (y.2.2) (upd (y.2.1 (y.2.2)) (fX7_at x2 3).toNatClampNeg ((fX7_field y x2 3) - ((((fX7_field y x2 3) - (fX7_field y x2 2)) * ((y.2.1 (y.2.2)) (((10 : Int32) + ((3 : Int32) * (fX7_field y x2 0))) + 2).toNatClampNeg)) / 100)))) (fun r37 => (fX7_pass_4    fu (x2 + 1) (x1 + 1) r37))))))
def sX7_pass_4   : Nat → Int32 → Int32 → Md → Prop
  | 0, _, _, _ => True
  | fu + 1, x2, x1, y => (((fX7_count y ) ≤ x2 → True) ∧ (¬ (fX7_count y ) ≤ x2 → ((sX7_isIn y x2 1) ∧ (((fX7_isIn y x2 1) = 0 → (sX7_pass_4    fu (x2 + 1) x1 y)) ∧ (¬ (fX7_isIn y x2 1) = 0 → ((sX7_field y x2 3) ∧ ((sX7_field y x2 0) ∧ (vp_in (((10 : Int32) + ((3 : Int32) * (fX7_field y x2 0))) + 2) 146 ∧ ((sX7_field y x2 2) ∧ ((((fX7_field y x2 3) - ((((fX7_field y x2 3) - (fX7_field y x2 2)) * ((y.2.1 (y.2.2)) (((10 : Int32) + ((3 : Int32) * (fX7_field y x2 0))) + 2).toNatClampNeg)) / 100)) = (fX7_field y x2 3) → (vp_in (fX7_at x2 3) 146 ∧ (bnd (mA y (y.2.2) (upd (y.2.1 (y.2.2)) (fX7_at x2 3).toNatClampNeg ((fX7_field y x2 3) - ((((fX7_field y x2 3) - (fX7_field y x2 2)) * ((y.2.1 (y.2.2)) (((10 : Int32) + ((3 : Int32) * (fX7_field y x2 0))) + 2).toNatClampNeg)) / 100)))) (fun r29 => (sX7_pass_4    fu (x2 + 1) (x1 + 0) r29))))) ∧ (¬ ((fX7_field y x2 3) - ((((fX7_field y x2 3) - (fX7_field y x2 2)) * ((y.2.1 (y.2.2)) (((10 : Int32) + ((3 : Int32) * (fX7_field y x2 0))) + 2).toNatClampNeg)) / 100)) = (fX7_field y x2 3) → (vp_in (fX7_at x2 3) 146 ∧ (bnd (mA y (y.2.2) (upd (y.2.1 (y.2.2)) (fX7_at x2 3).toNatClampNeg ((fX7_field y x2 3) - ((((fX7_field y x2 3) - (fX7_field y x2 2)) * ((y.2.1 (y.2.2)) (((10 : Int32) + ((3 : Int32) * (fX7_field y x2 0))) + 2).toNatClampNeg)) / 100)))) (fun r37 => (sX7_pass_4    fu (x2 + 1) (x1 + 1) r37)))))))))))))))
def fX7_pass (m : Md)  : Int32 × Md := (bnd (fX7_pass_4    (fuU 2147483647 0) 0 0 m) (fun r41 => (bnd (mA r41.2.2 (r41.2.2.2.2) (upd (r41.2.2.2.1 (r41.2.2.2.2)) 4 (((r41.2.2.2.1 (r41.2.2.2.2)) 4) + 1))) (fun r46 => (r41.2.1, r46)))))
def sX7_pass (m : Md)  : Prop := ((sX7_pass_4    (fuU 2147483647 0) 0 0 m) ∧ bnd (fX7_pass_4    (fuU 2147483647 0) 0 0 m) (fun r41 => (bnd (mA r41.2.2 (r41.2.2.2.2) (upd (r41.2.2.2.1 (r41.2.2.2.2)) 4 (((r41.2.2.2.1 (r41.2.2.2.2)) 4) + 1))) (fun r46 => True))))
def fX7_sizeFor_2 (z1 : Int32) (z2 : Int32)  (m : Md) : Nat → Int32 → Int32
  | 0, _ => 0
  | fu + 1, x3 => (if ((m.2.1 (m.2.2)) 7) ≤ x3 then (-1) else (if z1 < ((m.2.1 (m.2.2)) (((44 : Int32) + ((3 : Int32) * x3)) + 1).toNatClampNeg) then (fX7_sizeFor_2 z1 z2  m fu (x3 + 1) ) else (if ((m.2.1 (m.2.2)) (((44 : Int32) + ((3 : Int32) * x3)) + 2).toNatClampNeg) < z2 then (fX7_sizeFor_2 z1 z2  m fu (x3 + 1) ) else x3)))
def sX7_sizeFor_2 (z1 : Int32) (z2 : Int32)  (m : Md) : Nat → Int32 → Prop
  | 0, _ => True
  | fu + 1, x3 => ((((m.2.1 (m.2.2)) 7) ≤ x3 → True) ∧ (¬ ((m.2.1 (m.2.2)) 7) ≤ x3 → (vp_in (((44 : Int32) + ((3 : Int32) * x3)) + 1) 146 ∧ ((z1 < ((m.2.1 (m.2.2)) (((44 : Int32) + ((3 : Int32) * x3)) + 1).toNatClampNeg) → (sX7_sizeFor_2 z1 z2  m fu (x3 + 1) )) ∧ (¬ z1 < ((m.2.1 (m.2.2)) (((44 : Int32) + ((3 : Int32) * x3)) + 1).toNatClampNeg) → (vp_in (((44 : Int32) + ((3 : Int32) * x3)) + 2) 146 ∧ ((((m.2.1 (m.2.2)) (((44 : Int32) + ((3 : Int32) * x3)) + 2).toNatClampNeg) < z2 → (sX7_sizeFor_2 z1 z2  m fu (x3 + 1) )) ∧ (¬ ((m.2.1 (m.2.2)) (((44 : Int32) + ((3 : Int32) * x3)) + 2).toNatClampNeg) < z2 → True))))))))
def fX7_sizeFor (m : Md) (z1 : Int32) (z2 : Int32) : Int32 := (fX7_sizeFor_2 z1 z2  m (fuU ((m.2.1 (m.2.2)) 7) 0) 0 )
def sX7_sizeFor (m : Md) (z1 : Int32) (z2 : Int32) : Prop := (sX7_sizeFor_2 z1 z2  m (fuU ((m.2.1 (m.2.2)) 7) 0) 0 )
def fX7_sizeOfPiece (m : Md) (z1 : Int32) : Int32 := (fX7_sizeFor m (fX7_field m z1 3) (fX7_field m z1 3))
def sX7_sizeOfPiece (m : Md) (z1 : Int32) : Prop := ((sX7_field m z1 3) ∧ ((sX7_field m z1 3) ∧ ((sX7_sizeFor m (fX7_field m z1 3) (fX7_field m z1 3)) ∧ True)))
def fX7_gapOf (m : Md) (z1 : Int32) (z2 : Int32) : Int32 := ((iab ((fX7_field m z1 3) - (fX7_field m z2 3))) + ((10 : Int32) * (iab ((fX7_field m z1 4) - (fX7_field m z2 4)))))
def sX7_gapOf (m : Md) (z1 : Int32) (z2 : Int32) : Prop := ((sX7_field m z1 3) ∧ ((sX7_field m z2 3) ∧ ((sX7_field m z1 4) ∧ ((sX7_field m z2 4) ∧ True))))
def fX7_areMatch (m : Md) (z1 : Int32) (z2 : Int32) : Int32 := (if z1 = z2 then 0 else (if (fX7_isIn m z1 1) = 0 then 0 else (if (fX7_isIn m z2 1) = 0 then 0 else (if (fX7_field m z1 0) = (fX7_field m z2 0) then (if (fX7_field m z1 1) = (fX7_field m z2 1) then (if ((m.2.1 (m.2.2)) 0) < (iab ((fX7_field m z1 3) - (fX7_field m z2 3))) then 0 else (if ((m.2.1 (m.2.2)) 1) < (iab ((fX7_field m z1 4) - (fX7_field m z2 4))) then 0 else 1)) else 0) else 0))))
def sX7_areMatch (m : Md) (z1 : Int32) (z2 : Int32) : Prop := ((z1 = z2 → True) ∧ (¬ z1 = z2 → ((sX7_isIn m z1 1) ∧ (((fX7_isIn m z1 1) = 0 → True) ∧ (¬ (fX7_isIn m z1 1) = 0 → ((sX7_isIn m z2 1) ∧ (((fX7_isIn m z2 1) = 0 → True) ∧ (¬ (fX7_isIn m z2 1) = 0 → ((sX7_field m z1 0) ∧ ((sX7_field m z2 0) ∧ (((fX7_field m z1 0) = (fX7_field m z2 0) → ((sX7_field m z1 1) ∧ ((sX7_field m z2 1) ∧ (((fX7_field m z1 1) = (fX7_field m z2 1) → ((sX7_field m z1 3) ∧ ((sX7_field m z2 3) ∧ ((((m.2.1 (m.2.2)) 0) < (iab ((fX7_field m z1 3) - (fX7_field m z2 3))) → True) ∧ (¬ ((m.2.1 (m.2.2)) 0) < (iab ((fX7_field m z1 3) - (fX7_field m z2 3))) → ((sX7_field m z1 4) ∧ ((sX7_field m z2 4) ∧ ((((m.2.1 (m.2.2)) 1) < (iab ((fX7_field m z1 4) - (fX7_field m z2 4))) → True) ∧ (¬ ((m.2.1 (m.2.2)) 1) < (iab ((fX7_field m z1 4) - (fX7_field m z2 4))) → True))))))))) ∧ (¬ (fX7_field m z1 1) = (fX7_field m z2 1) → True))))) ∧ (¬ (fX7_field m z1 0) = (fX7_field m z2 0) → True))))))))))))
def fX7_matchesOf_4 (z1 : Int32)  (m : Md) : Nat → Int32 → Int32 → Int32 × Int32
  | 0, x3, x2 => (x3, x2)
  | fu + 1, x3, x2 => (if (fX7_count m ) ≤ x3 then (x3, x2) else (if (fX7_areMatch m z1 x3) = 0 then (fX7_matchesOf_4 z1  m fu (x3 + 1) (x2 ||| 0) ) else (fX7_matchesOf_4 z1  m fu (x3 + 1) (x2 ||| ((1 : Int32) <<< (x3 &&& 31))) )))
def sX7_matchesOf_4 (z1 : Int32)  (m : Md) : Nat → Int32 → Int32 → Prop
  | 0, _, _ => True
  | fu + 1, x3, x2 => (((fX7_count m ) ≤ x3 → True) ∧ (¬ (fX7_count m ) ≤ x3 → ((sX7_areMatch m z1 x3) ∧ (((fX7_areMatch m z1 x3) = 0 → (sX7_matchesOf_4 z1  m fu (x3 + 1) (x2 ||| 0) )) ∧ (¬ (fX7_areMatch m z1 x3) = 0 → (sX7_matchesOf_4 z1  m fu (x3 + 1) (x2 ||| ((1 : Int32) <<< (x3 &&& 31))) ))))))
def fX7_matchesOf (m : Md) (z1 : Int32) : Int32 := (bnd (fX7_matchesOf_4 z1  m (fuU (fX7_count m ) 0) 0 0 ) (fun r11 => r11.2))
def sX7_matchesOf (m : Md) (z1 : Int32) : Prop := ((sX7_matchesOf_4 z1  m (fuU (fX7_count m ) 0) 0 0 ) ∧ bnd (fX7_matchesOf_4 z1  m (fuU (fX7_count m ) 0) 0 0 ) (fun r11 => True))
def fX7_hasBit (z1 : Int32) (z2 : Int32) : Int32 := (if ((z1 >>> (z2 &&& 31)) &&& 1) = 1 then 1 else 0)
def fX7_lowest_2 (z1 : Int32)  : Nat → Int32 → Int32
  | 0, x1 => x1
  | fu + 1, x1 => (if (fX7_hasBit z1 x1) = 0 then (fX7_lowest_2 z1   fu (x1 + 1) ) else x1)
def sX7_lowest_2 (z1 : Int32)  : Nat → Int32 → Prop
  | 0, _ => False
  | fu + 1, x1 => (((fX7_hasBit z1 x1) = 0 → (sX7_lowest_2 z1   fu (x1 + 1) )) ∧ (¬ (fX7_hasBit z1 x1) = 0 → True))
def fX7_lowest (z1 : Int32) : Int32 := (bnd (fX7_lowest_2 z1   40 0 ) (fun r6 => r6))
def sX7_lowest (z1 : Int32) : Prop := ((sX7_lowest_2 z1   40 0 ) ∧ bnd (fX7_lowest_2 z1   40 0 ) (fun r6 => True))
def fX7_worthWith (m : Md) (z1 : Int32) (z2 : Int32) (z3 : Int32) : Int32 := ((((m.2.1 3) (z3 &&& (((1 : Int32) <<< (z2 &&& 31)) ^^^ (-1))).toNatClampNeg) + 100000) - (fX7_gapOf m z1 z2))
def sX7_worthWith (m : Md) (z1 : Int32) (z2 : Int32) (z3 : Int32) : Prop := (vp_in (z3 &&& (((1 : Int32) <<< (z2 &&& 31)) ^^^ (-1))) 16384 ∧ ((sX7_gapOf m z1 z2) ∧ True))
def fX7_layWorth_2   : Nat → Int32 → Md → Int32 × Md
  | 0, x1, y => (x1, y)
  | fu + 1, x1, y => (if (fX7_count y ) ≤ x1 then (x1, y) else (bnd (mA y 4 (upd (y.2.1 4) x1.toNatClampNeg (fX7_matchesOf y x1))) (fun r11 => (fX7_layWorth_2    fu (x1 + 1) r11))))
def sX7_layWorth_2   : Nat → Int32 → Md → Prop
  | 0, _, _ => True
  | fu + 1, x1, y => (((fX7_count y ) ≤ x1 → True) ∧ (¬ (fX7_count y ) ≤ x1 → ((sX7_matchesOf y x1) ∧ (vp_in x1 14 ∧ (bnd (mA y 4 (upd (y.2.1 4) x1.toNatClampNeg (fX7_matchesOf y x1))) (fun r11 => (sX7_layWorth_2    fu (x1 + 1) r11)))))))
def fX7_layWorth_82  (o4 : Int32) (o3 : Int32) (o2 : Int32) (o1 : Int32) : Nat → Int32 → Md → Int32 × Md
  | 0, x5, y => (x5, y)
  | fu + 1, x5, y => (if (fX7_count y ) ≤ x5 then (x5, y) else (if (fX7_hasBit (((y.2.1 4) o3.toNatClampNeg) &&& o4) x5) = 0 then (fX7_layWorth_82  o4 o3 o2 o1  fu (x5 + 1) y) else (bnd (mA y 3 (upd (y.2.1 3) o2.toNatClampNeg (imx ((y.2.1 3) o2.toNatClampNeg) (fX7_worthWith y o3 x5 o4)))) (fun r53 => (fX7_layWorth_82  o4 o3 o2 o1  fu (x5 + 1) r53)))))
def sX7_layWorth_82  (o4 : Int32) (o3 : Int32) (o2 : Int32) (o1 : Int32) : Nat → Int32 → Md → Prop
  | 0, _, _ => True
  | fu + 1, x5, y => (((fX7_count y ) ≤ x5 → True) ∧ (¬ (fX7_count y ) ≤ x5 → (vp_in o3 14 ∧ (((fX7_hasBit (((y.2.1 4) o3.toNatClampNeg) &&& o4) x5) = 0 → (sX7_layWorth_82  o4 o3 o2 o1  fu (x5 + 1) y)) ∧ (¬ (fX7_hasBit (((y.2.1 4) o3.toNatClampNeg) &&& o4) x5) = 0 → (vp_in o2 16384 ∧ ((sX7_worthWith y o3 x5 o4) ∧ (vp_in o2 16384 ∧ (bnd (mA y 3 (upd (y.2.1 3) o2.toNatClampNeg (imx ((y.2.1 3) o2.toNatClampNeg) (fX7_worthWith y o3 x5 o4)))) (fun r53 => (sX7_layWorth_82  o4 o3 o2 o1  fu (x5 + 1) r53)))))))))))
def fX7_layWorth_45  (o1 : Int32) : Nat → Int32 → Md → Int32 × Md
  | 0, x2, y => (x2, y)
  | fu + 1, x2, y => (if o1 < x2 then (x2, y) else (bnd (mA y 3 (upd (y.2.1 3) x2.toNatClampNeg ((y.2.1 3) (x2 &&& (((1 : Int32) <<< ((fX7_lowest x2) &&& 31)) ^^^ (-1))).toNatClampNeg))) (fun r34 => (bnd (fX7_layWorth_82  (x2 &&& (((1 : Int32) <<< ((fX7_lowest x2) &&& 31)) ^^^ (-1))) (fX7_lowest x2) x2 o1  (fuU 2147483647 ((fX7_lowest x2) + 1)) ((fX7_lowest x2) + 1) r34) (fun r57 => (fX7_layWorth_45  o1  fu (x2 + 1) r57.2))))))
def sX7_layWorth_45  (o1 : Int32) : Nat → Int32 → Md → Prop
  | 0, _, _ => False
  | fu + 1, x2, y => ((o1 < x2 → True) ∧ (¬ o1 < x2 → ((sX7_lowest x2) ∧ (vp_in (x2 &&& (((1 : Int32) <<< ((fX7_lowest x2) &&& 31)) ^^^ (-1))) 16384 ∧ (vp_in x2 16384 ∧ (bnd (mA y 3 (upd (y.2.1 3) x2.toNatClampNeg ((y.2.1 3) (x2 &&& (((1 : Int32) <<< ((fX7_lowest x2) &&& 31)) ^^^ (-1))).toNatClampNeg))) (fun r34 => ((sX7_layWorth_82  (x2 &&& (((1 : Int32) <<< ((fX7_lowest x2) &&& 31)) ^^^ (-1))) (fX7_lowest x2) x2 o1  (fuU 2147483647 ((fX7_lowest x2) + 1)) ((fX7_lowest x2) + 1) r34) ∧ bnd (fX7_layWorth_82  (x2 &&& (((1 : Int32) <<< ((fX7_lowest x2) &&& 31)) ^^^ (-1))) (fX7_lowest x2) x2 o1  (fuU 2147483647 ((fX7_lowest x2) + 1)) ((fX7_lowest x2) + 1) r34) (fun r57 => (sX7_layWorth_45  o1  fu (x2 + 1) r57.2))))))))))
def fX7_layWorth (m : Md)  : Int32 × Md := (bnd (fX7_layWorth_2    (fuU 2147483647 0) 0 m) (fun r15 => (bnd (mA r15.2 3 (upd (r15.2.2.1 3) 0 0)) (fun r23 => (bnd (fX7_layWorth_45  (((1 : Int32) <<< ((fX7_count r15.2 ) &&& 31)) - 1)  16400 1 r23) (fun r62 => (((r62.2.2.1 3) (((1 : Int32) <<< ((fX7_count r15.2 ) &&& 31)) - 1).toNatClampNeg), r62.2)))))))
def sX7_layWorth (m : Md)  : Prop := ((sX7_layWorth_2    (fuU 2147483647 0) 0 m) ∧ bnd (fX7_layWorth_2    (fuU 2147483647 0) 0 m) (fun r15 => (bnd (mA r15.2 3 (upd (r15.2.2.1 3) 0 0)) (fun r23 => ((sX7_layWorth_45  (((1 : Int32) <<< ((fX7_count r15.2 ) &&& 31)) - 1)  16400 1 r23) ∧ bnd (fX7_layWorth_45  (((1 : Int32) <<< ((fX7_count r15.2 ) &&& 31)) - 1)  16400 1 r23) (fun r62 => (vp_in (((1 : Int32) <<< ((fX7_count r15.2 ) &&& 31)) - 1) 16384 ∧ True)))))))
def fX7_countPairs (m : Md)  : Int32 × Md := (bnd (fX7_layWorth m ) (fun r5 => ((((r5.1 + 100000) - 1) / 100000), r5.2)))
def sX7_countPairs (m : Md)  : Prop := ((sX7_layWorth m ) ∧ (bnd (fX7_layWorth m ) (fun r5 => True)))
def fX7_layPartners_16  (o2 : Int32) (o1 : Int32) : Nat → Int32 → Md → Int32 × Md
  | 0, x3, y => (x3, y)
  | fu + 1, x3, y => (if (fX7_count y ) ≤ x3 then (x3, y) else (bnd (mA y 5 (upd (y.2.1 5) x3.toNatClampNeg (-1))) (fun r17 => (fX7_layPartners_16  o2 o1  fu (x3 + 1) r17))))
def sX7_layPartners_16  (o2 : Int32) (o1 : Int32) : Nat → Int32 → Md → Prop
  | 0, _, _ => True
  | fu + 1, x3, y => (((fX7_count y ) ≤ x3 → True) ∧ (¬ (fX7_count y ) ≤ x3 → (vp_in x3 14 ∧ (bnd (mA y 5 (upd (y.2.1 5) x3.toNatClampNeg (-1))) (fun r17 => (sX7_layPartners_16  o2 o1  fu (x3 + 1) r17))))))
def fX7_layPartners_66  (o4 : Int32) (o3 : Int32) (o2 : Int32) (o1 : Int32) (m : Md) : Nat → Int32 → Int32 → Int32 × Int32
  | 0, x6, x5 => (x6, x5)
  | fu + 1, x6, x5 => (if x6 ≤ o3 then (x6, x5) else (if (fX7_hasBit (((m.2.1 4) o3.toNatClampNeg) &&& o4) x6) = 0 then (fX7_layPartners_66  o4 o3 o2 o1 m fu (x6 + (-1)) x5 ) else (if (fX7_worthWith m o3 x6 o4) = ((m.2.1 3) o2.toNatClampNeg) then (fX7_layPartners_66  o4 o3 o2 o1 m fu (x6 + (-1)) x6 ) else (fX7_layPartners_66  o4 o3 o2 o1 m fu (x6 + (-1)) x5 ))))
def sX7_layPartners_66  (o4 : Int32) (o3 : Int32) (o2 : Int32) (o1 : Int32) (m : Md) : Nat → Int32 → Int32 → Prop
  | 0, _, _ => False
  | fu + 1, x6, x5 => ((x6 ≤ o3 → True) ∧ (¬ x6 ≤ o3 → (vp_in o3 14 ∧ (((fX7_hasBit (((m.2.1 4) o3.toNatClampNeg) &&& o4) x6) = 0 → (sX7_layPartners_66  o4 o3 o2 o1 m fu (x6 + (-1)) x5 )) ∧ (¬ (fX7_hasBit (((m.2.1 4) o3.toNatClampNeg) &&& o4) x6) = 0 → ((sX7_worthWith m o3 x6 o4) ∧ (vp_in o2 16384 ∧ (((fX7_worthWith m o3 x6 o4) = ((m.2.1 3) o2.toNatClampNeg) → (sX7_layPartners_66  o4 o3 o2 o1 m fu (x6 + (-1)) x6 )) ∧ (¬ (fX7_worthWith m o3 x6 o4) = ((m.2.1 3) o2.toNatClampNeg) → (sX7_layPartners_66  o4 o3 o2 o1 m fu (x6 + (-1)) x5 ))))))))))
def fX7_layPartners_37  (o1 : Int32) : Nat → Int32 → Md → Int32 × Md
  | 0, x2, y => (x2, y)
  | fu + 1, x2, y => (if x2 = 0 then (x2, y) else (bnd (fX7_layPartners_66  (x2 &&& (((1 : Int32) <<< ((fX7_lowest x2) &&& 31)) ^^^ (-1))) (fX7_lowest x2) x2 o1 y 20 ((fX7_count y ) - 1) (-1) ) (fun r46 => (bnd (mA y 5 (upd (y.2.1 5) (fX7_lowest x2).toNatClampNeg r46.2)) (fun r50 => (if r46.2 = (-1) then (fX7_layPartners_37  o1  fu (x2 &&& (((1 : Int32) <<< ((fX7_lowest x2) &&& 31)) ^^^ (-1))) r50) else (bnd (mA r50 5 (upd (r50.2.1 5) r46.2.toNatClampNeg (fX7_lowest x2))) (fun r57 => (fX7_layPartners_37  o1  fu ((x2 &&& (((1 : Int32) <<< ((fX7_lowest x2) &&& 31)) ^^^ (-1))) &&& (((1 : Int32) <<< (r46.2 &&& 31)) ^^^ (-1))) r57)))))))))
def sX7_layPartners_37  (o1 : Int32) : Nat → Int32 → Md → Prop
  | 0, _, _ => False
  | fu + 1, x2, y => ((x2 = 0 → True) ∧ (¬ x2 = 0 → ((sX7_lowest x2) ∧ ((sX7_layPartners_66  (x2 &&& (((1 : Int32) <<< ((fX7_lowest x2) &&& 31)) ^^^ (-1))) (fX7_lowest x2) x2 o1 y 20 ((fX7_count y ) - 1) (-1) ) ∧ bnd (fX7_layPartners_66  (x2 &&& (((1 : Int32) <<< ((fX7_lowest x2) &&& 31)) ^^^ (-1))) (fX7_lowest x2) x2 o1 y 20 ((fX7_count y ) - 1) (-1) ) (fun r46 => (vp_in (fX7_lowest x2) 14 ∧ (bnd (mA y 5 (upd (y.2.1 5) (fX7_lowest x2).toNatClampNeg r46.2)) (fun r50 => ((r46.2 = (-1) → (sX7_layPartners_37  o1  fu (x2 &&& (((1 : Int32) <<< ((fX7_lowest x2) &&& 31)) ^^^ (-1))) r50)) ∧ (¬ r46.2 = (-1) → (vp_in r46.2 14 ∧ (bnd (mA r50 5 (upd (r50.2.1 5) r46.2.toNatClampNeg (fX7_lowest x2))) (fun r57 => (sX7_layPartners_37  o1  fu ((x2 &&& (((1 : Int32) <<< ((fX7_lowest x2) &&& 31)) ^^^ (-1))) &&& (((1 : Int32) <<< (r46.2 &&& 31)) ^^^ (-1))) r57))))))))))))))
def fX7_layPartners (m : Md)  : Int32 × Md := (bnd (fX7_countPairs m ) (fun r5 => (bnd (fX7_layPartners_16  (((1 : Int32) <<< ((fX7_count r5.2 ) &&& 31)) - 1) r5.1  (fuU 2147483647 0) 0 r5.2) (fun r21 => (bnd (fX7_layPartners_37  r5.1  20 (((1 : Int32) <<< ((fX7_count r5.2 ) &&& 31)) - 1) r21.2) (fun r62 => (r5.1, r62.2)))))))
def sX7_layPartners (m : Md)  : Prop := ((sX7_countPairs m ) ∧ (bnd (fX7_countPairs m ) (fun r5 => ((sX7_layPartners_16  (((1 : Int32) <<< ((fX7_count r5.2 ) &&& 31)) - 1) r5.1  (fuU 2147483647 0) 0 r5.2) ∧ bnd (fX7_layPartners_16  (((1 : Int32) <<< ((fX7_count r5.2 ) &&& 31)) - 1) r5.1  (fuU 2147483647 0) 0 r5.2) (fun r21 => ((sX7_layPartners_37  r5.1  20 (((1 : Int32) <<< ((fX7_count r5.2 ) &&& 31)) - 1) r21.2) ∧ bnd (fX7_layPartners_37  r5.1  20 (((1 : Int32) <<< ((fX7_count r5.2 ) &&& 31)) - 1) r21.2) (fun r62 => True)))))))
def fX7_pairAt_4 (z1 : Int32)  (m : Md) : Nat → Int32 → Int32 → Int32
  | 0, _, _ => 0
  | fu + 1, x3, x2 => (if (fX7_count m ) ≤ x3 then (-1) else (if x3 < ((m.2.1 5) x3.toNatClampNeg) then (if x2 = z1 then x3 else (fX7_pairAt_4 z1  m fu (x3 + 1) (x2 + 1) )) else (fX7_pairAt_4 z1  m fu (x3 + 1) x2 )))
def sX7_pairAt_4 (z1 : Int32)  (m : Md) : Nat → Int32 → Int32 → Prop
  | 0, _, _ => True
  | fu + 1, x3, x2 => (((fX7_count m ) ≤ x3 → True) ∧ (¬ (fX7_count m ) ≤ x3 → (vp_in x3 14 ∧ ((x3 < ((m.2.1 5) x3.toNatClampNeg) → ((x2 = z1 → True) ∧ (¬ x2 = z1 → (sX7_pairAt_4 z1  m fu (x3 + 1) (x2 + 1) )))) ∧ (¬ x3 < ((m.2.1 5) x3.toNatClampNeg) → (sX7_pairAt_4 z1  m fu (x3 + 1) x2 ))))))
def fX7_pairAt (m : Md) (z1 : Int32) : Int32 := (fX7_pairAt_4 z1  m (fuU (fX7_count m ) 0) 0 0 )
def sX7_pairAt (m : Md) (z1 : Int32) : Prop := (sX7_pairAt_4 z1  m (fuU (fX7_count m ) 0) 0 0 )
def fX7_sizeOfPair (m : Md) (z1 : Int32) : Int32 := (fX7_sizeFor m (imn (fX7_field m z1 3) (fX7_field m ((m.2.1 5) z1.toNatClampNeg) 3)) (imx (fX7_field m z1 3) (fX7_field m ((m.2.1 5) z1.toNatClampNeg) 3)))
def sX7_sizeOfPair (m : Md) (z1 : Int32) : Prop := ((sX7_field m z1 3) ∧ (vp_in z1 14 ∧ ((sX7_field m ((m.2.1 5) z1.toNatClampNeg) 3) ∧ ((sX7_sizeFor m (imn (fX7_field m z1 3) (fX7_field m ((m.2.1 5) z1.toNatClampNeg) 3)) (imx (fX7_field m z1 3) (fX7_field m ((m.2.1 5) z1.toNatClampNeg) 3))) ∧ True))))
def fX7_groupKey (m : Md) (z1 : Int32) : Int32 := (((((fX7_field m z1 0) * 3) + (fX7_field m z1 1)) * 6) + (fX7_sizeOfPair m z1))
def sX7_groupKey (m : Md) (z1 : Int32) : Prop := ((sX7_field m z1 0) ∧ ((sX7_field m z1 1) ∧ ((sX7_sizeOfPair m z1) ∧ True)))
def fX7_isSized (m : Md) (z1 : Int32) : Int32 := (if ((m.2.1 5) z1.toNatClampNeg) ≤ z1 then 0 else (if (fX7_sizeOfPair m z1) = (-1) then 0 else 1))
def sX7_isSized (m : Md) (z1 : Int32) : Prop := (vp_in z1 14 ∧ ((((m.2.1 5) z1.toNatClampNeg) ≤ z1 → True) ∧ (¬ ((m.2.1 5) z1.toNatClampNeg) ≤ z1 → ((sX7_sizeOfPair m z1) ∧ (((fX7_sizeOfPair m z1) = (-1) → True) ∧ (¬ (fX7_sizeOfPair m z1) = (-1) → True))))))
def fX7_inGroup_5 (z1 : Int32) (z2 : Int32)  (m : Md) : Nat → Int32 → Int32 → Int32 × Int32
  | 0, x4, x3 => (x4, x3)
  | fu + 1, x4, x3 => (if (fX7_count m ) ≤ x4 then (x4, x3) else (if z2 = 0 then (if z1 < x4 then (x4, x3) else (if (fX7_isSized m x4) = 0 then (fX7_inGroup_5 z1 z2  m fu (x4 + 1) (x3 + 0) ) else (if (fX7_groupKey m x4) = (fX7_groupKey m z1) then (fX7_inGroup_5 z1 z2  m fu (x4 + 1) (x3 + 1) ) else (fX7_inGroup_5 z1 z2  m fu (x4 + 1) (x3 + 0) )))) else (if (fX7_isSized m x4) = 0 then (fX7_inGroup_5 z1 z2  m fu (x4 + 1) (x3 + 0) ) else (if (fX7_groupKey m x4) = (fX7_groupKey m z1) then (fX7_inGroup_5 z1 z2  m fu (x4 + 1) (x3 + 1) ) else (fX7_inGroup_5 z1 z2  m fu (x4 + 1) (x3 + 0) )))))
def sX7_inGroup_5 (z1 : Int32) (z2 : Int32)  (m : Md) : Nat → Int32 → Int32 → Prop
  | 0, _, _ => True
  | fu + 1, x4, x3 => (((fX7_count m ) ≤ x4 → True) ∧ (¬ (fX7_count m ) ≤ x4 → ((z2 = 0 → ((z1 < x4 → True) ∧ (¬ z1 < x4 → ((sX7_isSized m x4) ∧ (((fX7_isSized m x4) = 0 → (sX7_inGroup_5 z1 z2  m fu (x4 + 1) (x3 + 0) )) ∧ (¬ (fX7_isSized m x4) = 0 → ((sX7_groupKey m x4) ∧ ((sX7_groupKey m z1) ∧ (((fX7_groupKey m x4) = (fX7_groupKey m z1) → (sX7_inGroup_5 z1 z2  m fu (x4 + 1) (x3 + 1) )) ∧ (¬ (fX7_groupKey m x4) = (fX7_groupKey m z1) → (sX7_inGroup_5 z1 z2  m fu (x4 + 1) (x3 + 0) ))))))))))) ∧ (¬ z2 = 0 → ((sX7_isSized m x4) ∧ (((fX7_isSized m x4) = 0 → (sX7_inGroup_5 z1 z2  m fu (x4 + 1) (x3 + 0) )) ∧ (¬ (fX7_isSized m x4) = 0 → ((sX7_groupKey m x4) ∧ ((sX7_groupKey m z1) ∧ (((fX7_groupKey m x4) = (fX7_groupKey m z1) → (sX7_inGroup_5 z1 z2  m fu (x4 + 1) (x3 + 1) )) ∧ (¬ (fX7_groupKey m x4) = (fX7_groupKey m z1) → (sX7_inGroup_5 z1 z2  m fu (x4 + 1) (x3 + 0) ))))))))))))
def fX7_inGroup (m : Md) (z1 : Int32) (z2 : Int32) : Int32 := (bnd (fX7_inGroup_5 z1 z2  m (fuU (fX7_count m ) 0) 0 0 ) (fun r36 => r36.2))
def sX7_inGroup (m : Md) (z1 : Int32) (z2 : Int32) : Prop := ((sX7_inGroup_5 z1 z2  m (fuU (fX7_count m ) 0) 0 0 ) ∧ bnd (fX7_inGroup_5 z1 z2  m (fuU (fX7_count m ) 0) 0 0 ) (fun r36 => True))
def fX7_packedSet_11   (m : Md) : Nat → Int32 → Int32 → Int32 → Int32 × Int32 × Int32
  | 0, x3, x2, x1 => (x3, x2, x1)
  | fu + 1, x3, x2, x1 => (if (fX7_count m ) ≤ x3 then (x3, x2, x1) else (if (fX7_isSized m x3) = 0 then (fX7_packedSet_11   m fu (x3 + 1) x2 x1 ) else (if (fX7_inGroup m x3 0) ≤ (((fX7_inGroup m x3 1) / ((m.2.1 (m.2.2)) 3)) * ((m.2.1 (m.2.2)) 3)) then (fX7_packedSet_11   m fu (x3 + 1) (x2 ||| (((1 : Int32) <<< (x3 &&& 31)) ||| ((1 : Int32) <<< (((m.2.1 5) x3.toNatClampNeg) &&& 31)))) (x1 + 1) ) else (fX7_packedSet_11   m fu (x3 + 1) x2 x1 ))))
def sX7_packedSet_11   (m : Md) : Nat → Int32 → Int32 → Int32 → Prop
  | 0, _, _, _ => True
  | fu + 1, x3, x2, x1 => (((fX7_count m ) ≤ x3 → True) ∧ (¬ (fX7_count m ) ≤ x3 → ((sX7_isSized m x3) ∧ (((fX7_isSized m x3) = 0 → (sX7_packedSet_11   m fu (x3 + 1) x2 x1 )) ∧ (¬ (fX7_isSized m x3) = 0 → ((sX7_inGroup m x3 0) ∧ ((sX7_inGroup m x3 1) ∧ (¬ ((m.2.1 (m.2.2)) 3) = 0 ∧ (((fX7_inGroup m x3 0) ≤ (((fX7_inGroup m x3 1) / ((m.2.1 (m.2.2)) 3)) * ((m.2.1 (m.2.2)) 3)) → (vp_in x3 14 ∧ (sX7_packedSet_11   m fu (x3 + 1) (x2 ||| (((1 : Int32) <<< (x3 &&& 31)) ||| ((1 : Int32) <<< (((m.2.1 5) x3.toNatClampNeg) &&& 31)))) (x1 + 1) ))) ∧ (¬ (fX7_inGroup m x3 0) ≤ (((fX7_inGroup m x3 1) / ((m.2.1 (m.2.2)) 3)) * ((m.2.1 (m.2.2)) 3)) → (sX7_packedSet_11   m fu (x3 + 1) x2 x1 )))))))))))
def fX7_packedSet (m : Md)  : Int32 × Md := (bnd (fX7_layPartners m ) (fun r5 => (bnd (fX7_packedSet_11   r5.2 (fuU (fX7_count r5.2 ) 0) 0 0 0 ) (fun r29 => (r29.2.1, (mS r5.2 1 (r29.2.2 / ((r5.2.2.1 (r5.2.2.2)) 3))))))))
def sX7_packedSet (m : Md)  : Prop := ((sX7_layPartners m ) ∧ (bnd (fX7_layPartners m ) (fun r5 => ((sX7_packedSet_11   r5.2 (fuU (fX7_count r5.2 ) 0) 0 0 0 ) ∧ bnd (fX7_packedSet_11   r5.2 (fuU (fX7_count r5.2 ) 0) 0 0 0 ) (fun r29 => (¬ ((r5.2.2.1 (r5.2.2.2)) 3) = 0 ∧ True))))))
def fX7_yarnCount (m : Md)  : Int32 := ((m.2.1 0) 5)
def fX7_shapeCount (m : Md)  : Int32 := ((m.2.1 0) 6)
def fX7_sizeCount (m : Md)  : Int32 := ((m.2.1 0) 7)
def fX7_pieceCount (m : Md)  : Int32 := ((m.2.1 0) 8)
def fX7_days (m : Md)  : Int32 := ((m.2.1 0) 4)
def fX7_lengthTolerance (m : Md)  : Int32 := ((m.2.1 0) 0)
def fX7_shadeTolerance (m : Md)  : Int32 := ((m.2.1 0) 1)
def fX7_steam (m : Md)  : Int32 := ((m.2.1 0) 2)
def fX7_length (m : Md) (z1 : Int32) : Int32 := (if (fX7_isPiece m z1) = 0 then (-2) else (fX7_field m z1 3))
def sX7_length (m : Md) (z1 : Int32) : Prop := ((sX7_isPiece m z1) ∧ (((fX7_isPiece m z1) = 0 → True) ∧ (¬ (fX7_isPiece m z1) = 0 → ((sX7_field m z1 3) ∧ True))))
def fX7_knitted (m : Md) (z1 : Int32) : Int32 := (if (fX7_isPiece m z1) = 0 then (-2) else (fX7_field m z1 2))
def sX7_knitted (m : Md) (z1 : Int32) : Prop := ((sX7_isPiece m z1) ∧ (((fX7_isPiece m z1) = 0 → True) ∧ (¬ (fX7_isPiece m z1) = 0 → ((sX7_field m z1 2) ∧ True))))
def fX7_shade (m : Md) (z1 : Int32) : Int32 := (if (fX7_isPiece m z1) = 0 then (-2) else (fX7_field m z1 4))
def sX7_shade (m : Md) (z1 : Int32) : Prop := ((sX7_isPiece m z1) ∧ (((fX7_isPiece m z1) = 0 → True) ∧ (¬ (fX7_isPiece m z1) = 0 → ((sX7_field m z1 4) ∧ True))))
def fX7_yarnOf (m : Md) (z1 : Int32) : Int32 := (if (fX7_isPiece m z1) = 0 then (-2) else (fX7_field m z1 0))
def sX7_yarnOf (m : Md) (z1 : Int32) : Prop := ((sX7_isPiece m z1) ∧ (((fX7_isPiece m z1) = 0 → True) ∧ (¬ (fX7_isPiece m z1) = 0 → ((sX7_field m z1 0) ∧ True))))
def fX7_kindOf (m : Md) (z1 : Int32) : Int32 := (if (fX7_isPiece m z1) = 0 then (-2) else (fX7_field m z1 1))
def sX7_kindOf (m : Md) (z1 : Int32) : Prop := ((sX7_isPiece m z1) ∧ (((fX7_isPiece m z1) = 0 → True) ∧ (¬ (fX7_isPiece m z1) = 0 → ((sX7_field m z1 1) ∧ True))))
def fX7_state (m : Md) (z1 : Int32) : Int32 := (if (fX7_isPiece m z1) = 0 then (-2) else (fX7_field m z1 5))
def sX7_state (m : Md) (z1 : Int32) : Prop := ((sX7_isPiece m z1) ∧ (((fX7_isPiece m z1) = 0 → True) ∧ (¬ (fX7_isPiece m z1) = 0 → ((sX7_field m z1 5) ∧ True))))
def fX7_inState_19 (z1 : Int32)  (m : Md) : Nat → Int32 → Int32 → Int32 × Int32
  | 0, x3, x2 => (x3, x2)
  | fu + 1, x3, x2 => (if (fX7_count m ) ≤ x3 then (x3, x2) else (if (fX7_isIn m x3 z1) = 0 then (fX7_inState_19 z1  m fu (x3 + 1) (x2 ||| 0) ) else (fX7_inState_19 z1  m fu (x3 + 1) (x2 ||| ((1 : Int32) <<< (x3 &&& 31))) )))
def sX7_inState_19 (z1 : Int32)  (m : Md) : Nat → Int32 → Int32 → Prop
  | 0, _, _ => True
  | fu + 1, x3, x2 => (((fX7_count m ) ≤ x3 → True) ∧ (¬ (fX7_count m ) ≤ x3 → ((sX7_isIn m x3 z1) ∧ (((fX7_isIn m x3 z1) = 0 → (sX7_inState_19 z1  m fu (x3 + 1) (x2 ||| 0) )) ∧ (¬ (fX7_isIn m x3 z1) = 0 → (sX7_inState_19 z1  m fu (x3 + 1) (x2 ||| ((1 : Int32) <<< (x3 &&& 31))) ))))))
def fX7_inState (m : Md) (z1 : Int32) : Int32 := (if (fX7_in (z1.toInt64) 0 3) = 0 then (-2) else (bnd (fX7_inState_19 z1  m (fuU (fX7_count m ) 0) 0 0 ) (fun r15 => r15.2)))
def sX7_inState (m : Md) (z1 : Int32) : Prop := (((fX7_in (z1.toInt64) 0 3) = 0 → True) ∧ (¬ (fX7_in (z1.toInt64) 0 3) = 0 → ((sX7_inState_19 z1  m (fuU (fX7_count m ) 0) 0 0 ) ∧ bnd (fX7_inState_19 z1  m (fuU (fX7_count m ) 0) 0 0 ) (fun r15 => True))))
def fX7_stretchLimit (m : Md) (z1 : Int32) : Int32 := (if (fX7_isPiece m z1) = 0 then (-2) else (fX7_limitOf m z1))
def sX7_stretchLimit (m : Md) (z1 : Int32) : Prop := ((sX7_isPiece m z1) ∧ (((fX7_isPiece m z1) = 0 → True) ∧ (¬ (fX7_isPiece m z1) = 0 → ((sX7_limitOf m z1) ∧ True))))
def fX7_longestShape (m : Md) (z1 : Int32) : Int32 := (if (fX7_isPiece m z1) = 0 then (-2) else (fX7_longestOf m z1))
def sX7_longestShape (m : Md) (z1 : Int32) : Prop := ((sX7_isPiece m z1) ∧ (((fX7_isPiece m z1) = 0 → True) ∧ (¬ (fX7_isPiece m z1) = 0 → ((sX7_longestOf m z1) ∧ True))))
def fX7_isDone (m : Md) (z1 : Int32) : Int32 := (if (fX7_isIn m z1 2) = 0 then (if (fX7_isIn m z1 3) = 0 then 0 else 1) else 1)
def sX7_isDone (m : Md) (z1 : Int32) : Prop := ((sX7_isIn m z1 2) ∧ (((fX7_isIn m z1 2) = 0 → ((sX7_isIn m z1 3) ∧ (((fX7_isIn m z1 3) = 0 → True) ∧ (¬ (fX7_isIn m z1 3) = 0 → True)))) ∧ (¬ (fX7_isIn m z1 2) = 0 → True)))
def fX7_ifBoarded (m : Md) (z1 : Int32) (z2 : Int32) : Int32 := (if (fX7_isPiece m z1) = 0 then (-2) else (if (fX7_isShape m z2) = 0 then (-2) else (if (fX7_isDone m z1) = 0 then (if (fX7_wouldTear m z1 z2) = 0 then (fX7_lengthOn m z1 z2) else (-1)) else (-6))))
def sX7_ifBoarded (m : Md) (z1 : Int32) (z2 : Int32) : Prop := ((sX7_isPiece m z1) ∧ (((fX7_isPiece m z1) = 0 → True) ∧ (¬ (fX7_isPiece m z1) = 0 → ((sX7_isShape m z2) ∧ (((fX7_isShape m z2) = 0 → True) ∧ (¬ (fX7_isShape m z2) = 0 → ((sX7_isDone m z1) ∧ (((fX7_isDone m z1) = 0 → ((sX7_wouldTear m z1 z2) ∧ (((fX7_wouldTear m z1 z2) = 0 → ((sX7_lengthOn m z1 z2) ∧ True)) ∧ (¬ (fX7_wouldTear m z1 z2) = 0 → True)))) ∧ (¬ (fX7_isDone m z1) = 0 → True)))))))))
def fX7_sizeOf (m : Md) (z1 : Int32) : Int32 := (if (fX7_isPiece m z1) = 0 then (-2) else (fX7_sizeOfPiece m z1))
def sX7_sizeOf (m : Md) (z1 : Int32) : Prop := ((sX7_isPiece m z1) ∧ (((fX7_isPiece m z1) = 0 → True) ∧ (¬ (fX7_isPiece m z1) = 0 → ((sX7_sizeOfPiece m z1) ∧ True))))
def fX7_ofSize_26 (z1 : Int32)  (m : Md) : Nat → Int32 → Int32 → Int32 × Int32
  | 0, x3, x2 => (x3, x2)
  | fu + 1, x3, x2 => (if (fX7_count m ) ≤ x3 then (x3, x2) else (if (fX7_sizeOfPiece m x3) = z1 then (fX7_ofSize_26 z1  m fu (x3 + 1) (x2 ||| ((1 : Int32) <<< (x3 &&& 31))) ) else (fX7_ofSize_26 z1  m fu (x3 + 1) (x2 ||| 0) )))
def sX7_ofSize_26 (z1 : Int32)  (m : Md) : Nat → Int32 → Int32 → Prop
  | 0, _, _ => True
  | fu + 1, x3, x2 => (((fX7_count m ) ≤ x3 → True) ∧ (¬ (fX7_count m ) ≤ x3 → ((sX7_sizeOfPiece m x3) ∧ (((fX7_sizeOfPiece m x3) = z1 → (sX7_ofSize_26 z1  m fu (x3 + 1) (x2 ||| ((1 : Int32) <<< (x3 &&& 31))) )) ∧ (¬ (fX7_sizeOfPiece m x3) = z1 → (sX7_ofSize_26 z1  m fu (x3 + 1) (x2 ||| 0) ))))))
def fX7_ofSize (m : Md) (z1 : Int32) : Int32 := (if (fX7_in (z1.toInt64) 0 ((((m.2.1 0) 7) - 1).toInt64)) = 0 then (-2) else (bnd (fX7_ofSize_26 z1  m (fuU (fX7_count m ) 0) 0 0 ) (fun r15 => r15.2)))
def sX7_ofSize (m : Md) (z1 : Int32) : Prop := (((fX7_in (z1.toInt64) 0 ((((m.2.1 0) 7) - 1).toInt64)) = 0 → True) ∧ (¬ (fX7_in (z1.toInt64) 0 ((((m.2.1 0) 7) - 1).toInt64)) = 0 → ((sX7_ofSize_26 z1  m (fuU (fX7_count m ) 0) 0 0 ) ∧ bnd (fX7_ofSize_26 z1  m (fuU (fX7_count m ) 0) 0 0 ) (fun r15 => True))))
def fX7_isBefore (m : Md) (z1 : Int32) (z2 : Int32) : Int32 := (if ((fX7_field m z1 3) - (fX7_field m z2 3)) = 0 then (if ((fX7_field m z1 4) - (fX7_field m z2 4)) = 0 then (if z2 ≤ z1 then 0 else 1) else (if 0 ≤ ((fX7_field m z1 4) - (fX7_field m z2 4)) then 0 else 1)) else (if 0 ≤ ((fX7_field m z1 3) - (fX7_field m z2 3)) then 0 else 1))
def sX7_isBefore (m : Md) (z1 : Int32) (z2 : Int32) : Prop := ((sX7_field m z1 3) ∧ ((sX7_field m z2 3) ∧ ((sX7_field m z1 4) ∧ ((sX7_field m z2 4) ∧ ((((fX7_field m z1 3) - (fX7_field m z2 3)) = 0 → ((((fX7_field m z1 4) - (fX7_field m z2 4)) = 0 → ((z2 ≤ z1 → True) ∧ (¬ z2 ≤ z1 → True))) ∧ (¬ ((fX7_field m z1 4) - (fX7_field m z2 4)) = 0 → ((0 ≤ ((fX7_field m z1 4) - (fX7_field m z2 4)) → True) ∧ (¬ 0 ≤ ((fX7_field m z1 4) - (fX7_field m z2 4)) → True))))) ∧ (¬ ((fX7_field m z1 3) - (fX7_field m z2 3)) = 0 → ((0 ≤ ((fX7_field m z1 3) - (fX7_field m z2 3)) → True) ∧ (¬ 0 ≤ ((fX7_field m z1 3) - (fX7_field m z2 3)) → True))))))))
def fX7_sorted_22 (z1 : Int32) (o2 : Int32) (m : Md) : Nat → Int32 → Int32 → Int32 × Int32
  | 0, x4, x3 => (x4, x3)
  | fu + 1, x4, x3 => (if (fX7_count m ) ≤ x4 then (x4, x3) else (if (fX7_isBefore m x4 o2) = 0 then (fX7_sorted_22 z1 o2 m fu (x4 + 1) (x3 + 0) ) else (fX7_sorted_22 z1 o2 m fu (x4 + 1) (x3 + 1) )))
def sX7_sorted_22 (z1 : Int32) (o2 : Int32) (m : Md) : Nat → Int32 → Int32 → Prop
  | 0, _, _ => True
  | fu + 1, x4, x3 => (((fX7_count m ) ≤ x4 → True) ∧ (¬ (fX7_count m ) ≤ x4 → ((sX7_isBefore m x4 o2) ∧ (((fX7_isBefore m x4 o2) = 0 → (sX7_sorted_22 z1 o2 m fu (x4 + 1) (x3 + 0) )) ∧ (¬ (fX7_isBefore m x4 o2) = 0 → (sX7_sorted_22 z1 o2 m fu (x4 + 1) (x3 + 1) ))))))
def fX7_sorted_9 (z1 : Int32)  (m : Md) : Nat → Int32 → Int32
  | 0, _ => 0
  | fu + 1, x2 => (if (fX7_count m ) ≤ x2 then (-1) else (bnd (fX7_sorted_22 z1 x2 m (fuU (fX7_count m ) 0) 0 0 ) (fun r16 => (if r16.2 = z1 then x2 else (fX7_sorted_9 z1  m fu (x2 + 1) )))))
def sX7_sorted_9 (z1 : Int32)  (m : Md) : Nat → Int32 → Prop
  | 0, _ => True
  | fu + 1, x2 => (((fX7_count m ) ≤ x2 → True) ∧ (¬ (fX7_count m ) ≤ x2 → ((sX7_sorted_22 z1 x2 m (fuU (fX7_count m ) 0) 0 0 ) ∧ bnd (fX7_sorted_22 z1 x2 m (fuU (fX7_count m ) 0) 0 0 ) (fun r16 => ((r16.2 = z1 → True) ∧ (¬ r16.2 = z1 → (sX7_sorted_9 z1  m fu (x2 + 1) )))))))
def fX7_sorted (m : Md) (z1 : Int32) : Int32 := (if 0 ≤ z1 then (fX7_sorted_9 z1  m (fuU (fX7_count m ) 0) 0 ) else (-2))
def sX7_sorted (m : Md) (z1 : Int32) : Prop := ((0 ≤ z1 → (sX7_sorted_9 z1  m (fuU (fX7_count m ) 0) 0 )) ∧ (¬ 0 ≤ z1 → True))
def fX7_lengthRange_7   (m : Md) : Nat → Int32 → Int32 → Int32 → Int32 × Int32 × Int32
  | 0, x3, x2, x1 => (x3, x2, x1)
  | fu + 1, x3, x2, x1 => (if (fX7_count m ) ≤ x3 then (x3, x2, x1) else (if (fX7_isIn m x3 1) = 0 then (fX7_lengthRange_7   m fu (x3 + 1) x2 x1 ) else (fX7_lengthRange_7   m fu (x3 + 1) (imx x2 (fX7_field m x3 3)) (imn x1 (fX7_field m x3 3)) )))
def sX7_lengthRange_7   (m : Md) : Nat → Int32 → Int32 → Int32 → Prop
  | 0, _, _, _ => True
  | fu + 1, x3, x2, x1 => (((fX7_count m ) ≤ x3 → True) ∧ (¬ (fX7_count m ) ≤ x3 → ((sX7_isIn m x3 1) ∧ (((fX7_isIn m x3 1) = 0 → (sX7_lengthRange_7   m fu (x3 + 1) x2 x1 )) ∧ (¬ (fX7_isIn m x3 1) = 0 → ((sX7_field m x3 3) ∧ ((sX7_field m x3 3) ∧ (sX7_lengthRange_7   m fu (x3 + 1) (imx x2 (fX7_field m x3 3)) (imn x1 (fX7_field m x3 3)) ))))))))
def fX7_lengthRange (m : Md)  : Int32 := (bnd (fX7_lengthRange_7   m (fuU (fX7_count m ) 0) 0 (-1) 100000 ) (fun r19 => (if r19.2.1 = (-1) then (-1) else (r19.2.1 - r19.2.2))))
def sX7_lengthRange (m : Md)  : Prop := ((sX7_lengthRange_7   m (fuU (fX7_count m ) 0) 0 (-1) 100000 ) ∧ bnd (fX7_lengthRange_7   m (fuU (fX7_count m ) 0) 0 (-1) 100000 ) (fun r19 => ((r19.2.1 = (-1) → True) ∧ (¬ r19.2.1 = (-1) → True))))
def fX7_areTwo (m : Md) (z1 : Int32) (z2 : Int32) : Int32 := (if (fX7_isPiece m z1) = 0 then 0 else (if (fX7_isPiece m z2) = 0 then 0 else (if z1 = z2 then 0 else 1)))
def sX7_areTwo (m : Md) (z1 : Int32) (z2 : Int32) : Prop := ((sX7_isPiece m z1) ∧ (((fX7_isPiece m z1) = 0 → True) ∧ (¬ (fX7_isPiece m z1) = 0 → ((sX7_isPiece m z2) ∧ (((fX7_isPiece m z2) = 0 → True) ∧ (¬ (fX7_isPiece m z2) = 0 → ((z1 = z2 → True) ∧ (¬ z1 = z2 → True))))))))
def fX7_isMatch (m : Md) (z1 : Int32) (z2 : Int32) : Int32 := (if (fX7_areTwo m z1 z2) = 0 then (-2) else (if (fX7_areMatch m z1 z2) = 0 then 0 else 1))
def sX7_isMatch (m : Md) (z1 : Int32) (z2 : Int32) : Prop := ((sX7_areTwo m z1 z2) ∧ (((fX7_areTwo m z1 z2) = 0 → True) ∧ (¬ (fX7_areTwo m z1 z2) = 0 → ((sX7_areMatch m z1 z2) ∧ (((fX7_areMatch m z1 z2) = 0 → True) ∧ (¬ (fX7_areMatch m z1 z2) = 0 → True))))))
def fX7_gap (m : Md) (z1 : Int32) (z2 : Int32) : Int32 := (if (fX7_areTwo m z1 z2) = 0 then (-2) else (fX7_gapOf m z1 z2))
def sX7_gap (m : Md) (z1 : Int32) (z2 : Int32) : Prop := ((sX7_areTwo m z1 z2) ∧ (((fX7_areTwo m z1 z2) = 0 → True) ∧ (¬ (fX7_areTwo m z1 z2) = 0 → ((sX7_gapOf m z1 z2) ∧ True))))
def fX7_matches (m : Md) (z1 : Int32) : Int32 := (if (fX7_isPiece m z1) = 0 then (-2) else (fX7_matchesOf m z1))
def sX7_matches (m : Md) (z1 : Int32) : Prop := ((sX7_isPiece m z1) ∧ (((fX7_isPiece m z1) = 0 → True) ∧ (¬ (fX7_isPiece m z1) = 0 → ((sX7_matchesOf m z1) ∧ True))))
def fX7_nearest_15 (z1 : Int32)  (m : Md) : Nat → Int32 → Int32 → Int32 × Int32
  | 0, x3, x2 => (x3, x2)
  | fu + 1, x3, x2 => (if (fX7_count m ) ≤ x3 then (x3, x2) else (if (fX7_areMatch m z1 x3) = 0 then (fX7_nearest_15 z1  m fu (x3 + 1) x2 ) else (if x2 = (-1) then (fX7_nearest_15 z1  m fu (x3 + 1) x3 ) else (if (fX7_gapOf m z1 x2) ≤ (fX7_gapOf m z1 x3) then (fX7_nearest_15 z1  m fu (x3 + 1) x2 ) else (fX7_nearest_15 z1  m fu (x3 + 1) x3 )))))
def sX7_nearest_15 (z1 : Int32)  (m : Md) : Nat → Int32 → Int32 → Prop
  | 0, _, _ => True
  | fu + 1, x3, x2 => (((fX7_count m ) ≤ x3 → True) ∧ (¬ (fX7_count m ) ≤ x3 → ((sX7_areMatch m z1 x3) ∧ (((fX7_areMatch m z1 x3) = 0 → (sX7_nearest_15 z1  m fu (x3 + 1) x2 )) ∧ (¬ (fX7_areMatch m z1 x3) = 0 → ((x2 = (-1) → (sX7_nearest_15 z1  m fu (x3 + 1) x3 )) ∧ (¬ x2 = (-1) → ((sX7_gapOf m z1 x3) ∧ ((sX7_gapOf m z1 x2) ∧ (((fX7_gapOf m z1 x2) ≤ (fX7_gapOf m z1 x3) → (sX7_nearest_15 z1  m fu (x3 + 1) x2 )) ∧ (¬ (fX7_gapOf m z1 x2) ≤ (fX7_gapOf m z1 x3) → (sX7_nearest_15 z1  m fu (x3 + 1) x3 ))))))))))))
def fX7_nearest (m : Md) (z1 : Int32) : Int32 := (if (fX7_isPiece m z1) = 0 then (-2) else (bnd (fX7_nearest_15 z1  m (fuU (fX7_count m ) 0) 0 (-1) ) (fun r26 => r26.2)))
def sX7_nearest (m : Md) (z1 : Int32) : Prop := ((sX7_isPiece m z1) ∧ (((fX7_isPiece m z1) = 0 → True) ∧ (¬ (fX7_isPiece m z1) = 0 → ((sX7_nearest_15 z1  m (fuU (fX7_count m ) 0) 0 (-1) ) ∧ bnd (fX7_nearest_15 z1  m (fuU (fX7_count m ) 0) 0 (-1) ) (fun r26 => True)))))
def fX7_pairCount (m : Md)  : Int32 × Md := (bnd (fX7_countPairs m ) (fun r5 => (r5.1, r5.2)))
def sX7_pairCount (m : Md)  : Prop := ((sX7_countPairs m ) ∧ (bnd (fX7_countPairs m ) (fun r5 => True)))
def fX7_pairGap (m : Md)  : Int32 × Md := (bnd (fX7_layPartners m ) (fun r5 => (bnd (fX7_layWorth r5.2 ) (fun r12 => ((((100000 : Int32) * r5.1) - r12.1), r12.2)))))
def sX7_pairGap (m : Md)  : Prop := ((sX7_layPartners m ) ∧ (bnd (fX7_layPartners m ) (fun r5 => ((sX7_layWorth r5.2 ) ∧ (bnd (fX7_layWorth r5.2 ) (fun r12 => True))))))
def fX7_partner (m : Md) (z1 : Int32) : Int32 × Md := (if (fX7_isPiece m z1) = 0 then ((-2), m) else (bnd (fX7_layPartners m ) (fun r10 => (((r10.2.2.1 5) z1.toNatClampNeg), r10.2))))
def sX7_partner (m : Md) (z1 : Int32) : Prop := ((sX7_isPiece m z1) ∧ (((fX7_isPiece m z1) = 0 → True) ∧ (¬ (fX7_isPiece m z1) = 0 → ((sX7_layPartners m ) ∧ (bnd (fX7_layPartners m ) (fun r10 => (vp_in z1 14 ∧ True)))))))
def fX7_pair (m : Md) (z1 : Int32) : Int32 × Md := (if 0 ≤ z1 then (bnd (fX7_layPartners m ) (fun r6 => (if (fX7_pairAt r6.2 z1) = (-1) then ((-1), r6.2) else ((((16 : Int32) * (fX7_pairAt r6.2 z1)) + ((r6.2.2.1 5) (fX7_pairAt r6.2 z1).toNatClampNeg)), r6.2)))) else ((-2), m))
def sX7_pair (m : Md) (z1 : Int32) : Prop := ((0 ≤ z1 → ((sX7_layPartners m ) ∧ (bnd (fX7_layPartners m ) (fun r6 => ((sX7_pairAt r6.2 z1) ∧ (((fX7_pairAt r6.2 z1) = (-1) → True) ∧ (¬ (fX7_pairAt r6.2 z1) = (-1) → (vp_in (fX7_pairAt r6.2 z1) 14 ∧ True)))))))) ∧ (¬ 0 ≤ z1 → True))
def fX7_pairSize (m : Md) (z1 : Int32) : Int32 × Md := (if 0 ≤ z1 then (bnd (fX7_layPartners m ) (fun r6 => (if (fX7_pairAt r6.2 z1) = (-1) then ((-1), r6.2) else ((fX7_sizeOfPair r6.2 (fX7_pairAt r6.2 z1)), r6.2)))) else ((-2), m))
def sX7_pairSize (m : Md) (z1 : Int32) : Prop := ((0 ≤ z1 → ((sX7_layPartners m ) ∧ (bnd (fX7_layPartners m ) (fun r6 => ((sX7_pairAt r6.2 z1) ∧ (((fX7_pairAt r6.2 z1) = (-1) → True) ∧ (¬ (fX7_pairAt r6.2 z1) = (-1) → ((sX7_sizeOfPair r6.2 (fX7_pairAt r6.2 z1)) ∧ True)))))))) ∧ (¬ 0 ≤ z1 → True))
