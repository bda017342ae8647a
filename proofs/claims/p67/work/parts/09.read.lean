/-! Reading methods of the class: helpers, the catalogue, the plant (by program). -/
theorem dX6_at_0 : decode cX6_at 0 = .ok (.iload_n 1, 1) := by decide +kernel
theorem dX6_at_1 : decode cX6_at 1 = .ok (.ifCond .lt 15, 3) := by decide +kernel
theorem dX6_at_4 : decode cX6_at 4 = .ok (.iload_n 1, 1) := by decide +kernel
theorem dX6_at_5 : decode cX6_at 5 = .ok (.aload_n 0, 1) := by decide +kernel
theorem dX6_at_6 : decode cX6_at 6 = .ok (.arraylength, 1) := by decide +kernel
theorem dX6_at_7 : decode cX6_at 7 = .ok (.if_icmp .ge 9, 3) := by decide +kernel
theorem dX6_at_10 : decode cX6_at 10 = .ok (.aload_n 0, 1) := by decide +kernel
theorem dX6_at_11 : decode cX6_at 11 = .ok (.iload_n 1, 1) := by decide +kernel
theorem dX6_at_12 : decode cX6_at 12 = .ok (.iaload, 1) := by decide +kernel
theorem dX6_at_13 : decode cX6_at 13 = .ok (.goto 4, 3) := by decide +kernel
theorem dX6_at_16 : decode cX6_at 16 = .ok (.iconst 0, 1) := by decide +kernel
theorem dX6_at_17 : decode cX6_at 17 = .ok (.ireturn, 1) := by decide +kernel
def fX6_at (n : Nat) (f : Nat → Int32) (z2 : Int32) : Int32 := (if z2 < 0 then 0 else (if (nI n) ≤ z2 then 0 else (f z2.toNatClampNeg)))
set_option maxRecDepth 20000 in
theorem ctX6_at {l : Launch} {G : GM} {h : List va_E} {a n : Nat} {f : Nat → Int32} (hr1 : h[a]? = some (.inl (0, n, .inl f))) (hn1 : n < 2147483648) (z2 : Int32) : Ct l G mX6_at 0 0 0 [.ref (gz G + a), .int z2] h (fun v h1 => v = some (.int (fX6_at n f z2)) ∧ h1 = h) := by
  show Tr l G mX6_at 0 0 0 0 [(0, .ref (gz G + a)), (1, .int z2)] [] h _
  refine am_iload_n dX6_at_0 1 rfl ?_
  refine am_if_lt dX6_at_1 (by decide : ((1 : Nat) : Int) + (15) = ((16 : Nat) : Int)) (fun c1 => ?_) (fun c1 => ?_)
  · refine am_iconst (v := 0) dX6_at_16 (by decide) ?_
    rw [show (fX6_at n f z2) = 0 from Eq.trans (if_pos c1) (rfl)]
    exact am_ireturn dX6_at_17 rfl rfl ⟨rfl, rfl⟩
  · refine am_iload_n dX6_at_4 1 rfl ?_
    refine am_aload_n dX6_at_5 0 rfl ?_
    refine am_alen (v := (nI n)) dX6_at_6 hr1 rfl (by rfl) ?_
    refine am_icmp_ge dX6_at_7 (by decide : ((7 : Nat) : Int) + (9) = ((16 : Nat) : Int)) (fun c2 => ?_) (fun c2 => ?_)
    · refine am_iconst (v := 0) dX6_at_16 (by decide) ?_
      rw [show (fX6_at n f z2) = 0 from Eq.trans (if_neg c1) (Eq.trans (if_pos c2) (rfl))]
      exact am_ireturn dX6_at_17 rfl rfl ⟨rfl, rfl⟩
    · refine am_aload_n dX6_at_10 0 rfl ?_
      refine am_iload_n dX6_at_11 1 rfl ?_
      refine am_iald dX6_at_12 hr1 (vp_in2 c1 c2 hn1) ?_
      refine am_goto dX6_at_13 (by decide : ((13 : Nat) : Int) + (4) = ((17 : Nat) : Int)) ?_
      rw [show (fX6_at n f z2) = (f z2.toNatClampNeg) from Eq.trans (if_neg c1) (Eq.trans (if_neg c2) (rfl))]
      exact am_ireturn dX6_at_17 rfl rfl ⟨rfl, rfl⟩

theorem dX6_isBetween_0 : decode cX6_isBetween 0 = .ok (.iload_n 0, 1) := by decide +kernel
theorem dX6_isBetween_1 : decode cX6_isBetween 1 = .ok (.iload_n 1, 1) := by decide +kernel
theorem dX6_isBetween_2 : decode cX6_isBetween 2 = .ok (.if_icmp .lt 12, 3) := by decide +kernel
theorem dX6_isBetween_5 : decode cX6_isBetween 5 = .ok (.iload_n 0, 1) := by decide +kernel
theorem dX6_isBetween_6 : decode cX6_isBetween 6 = .ok (.iload_n 2, 1) := by decide +kernel
theorem dX6_isBetween_7 : decode cX6_isBetween 7 = .ok (.if_icmp .gt 7, 3) := by decide +kernel
theorem dX6_isBetween_10 : decode cX6_isBetween 10 = .ok (.iconst 1, 1) := by decide +kernel
theorem dX6_isBetween_11 : decode cX6_isBetween 11 = .ok (.goto 4, 3) := by decide +kernel
theorem dX6_isBetween_14 : decode cX6_isBetween 14 = .ok (.iconst 0, 1) := by decide +kernel
theorem dX6_isBetween_15 : decode cX6_isBetween 15 = .ok (.ireturn, 1) := by decide +kernel
def fX6_isBetween (z1 : Int32) (z2 : Int32) (z3 : Int32) : Int32 := (if z1 < z2 then 0 else (if z3 < z1 then 0 else 1))
set_option maxRecDepth 20000 in
theorem ctX6_isBetween {l : Launch} {G : GM} {h : List va_E} (z1 : Int32) (z2 : Int32) (z3 : Int32) : Ct l G mX6_isBetween 0 0 0 [.int z1, .int z2, .int z3] h (fun v h1 => v = some (.int (fX6_isBetween z1 z2 z3)) ∧ h1 = h) := by
  show Tr l G mX6_isBetween 0 0 0 0 [(0, .int z1), (1, .int z2), (2, .int z3)] [] h _
  refine am_iload_n dX6_isBetween_0 0 rfl ?_
  refine am_iload_n dX6_isBetween_1 1 rfl ?_
  refine am_icmp_lt dX6_isBetween_2 (by decide : ((2 : Nat) : Int) + (12) = ((14 : Nat) : Int)) (fun c1 => ?_) (fun c1 => ?_)
  · refine am_iconst (v := 0) dX6_isBetween_14 (by decide) ?_
    rw [show (fX6_isBetween z1 z2 z3) = 0 from Eq.trans (if_pos c1) (rfl)]
    exact am_ireturn dX6_isBetween_15 rfl rfl ⟨rfl, rfl⟩
  · refine am_iload_n dX6_isBetween_5 0 rfl ?_
    refine am_iload_n dX6_isBetween_6 2 rfl ?_
    refine am_icmp_gt dX6_isBetween_7 (by decide : ((7 : Nat) : Int) + (7) = ((14 : Nat) : Int)) (fun c2 => ?_) (fun c2 => ?_)
    · refine am_iconst (v := 0) dX6_isBetween_14 (by decide) ?_
      rw [show (fX6_isBetween z1 z2 z3) = 0 from Eq.trans (if_neg c1) (Eq.trans (if_pos c2) (rfl))]
      exact am_ireturn dX6_isBetween_15 rfl rfl ⟨rfl, rfl⟩
    · refine am_iconst (v := 1) dX6_isBetween_10 (by decide) ?_
      refine am_goto dX6_isBetween_11 (by decide : ((11 : Nat) : Int) + (4) = ((15 : Nat) : Int)) ?_
      rw [show (fX6_isBetween z1 z2 z3) = 1 from Eq.trans (if_neg c1) (Eq.trans (if_neg c2) (rfl))]
      exact am_ireturn dX6_isBetween_15 rfl rfl ⟨rfl, rfl⟩

theorem dX6_contains_0 : decode cX6_contains 0 = .ok (.iload_n 0, 1) := by decide +kernel
theorem dX6_contains_1 : decode cX6_contains 1 = .ok (.iload_n 1, 1) := by decide +kernel
theorem dX6_contains_2 : decode cX6_contains 2 = .ok (.ishr, 1) := by decide +kernel
theorem dX6_contains_3 : decode cX6_contains 3 = .ok (.iconst 1, 1) := by decide +kernel
theorem dX6_contains_4 : decode cX6_contains 4 = .ok (.iand, 1) := by decide +kernel
theorem dX6_contains_5 : decode cX6_contains 5 = .ok (.ifCond .eq 7, 3) := by decide +kernel
theorem dX6_contains_8 : decode cX6_contains 8 = .ok (.iconst 1, 1) := by decide +kernel
theorem dX6_contains_9 : decode cX6_contains 9 = .ok (.goto 4, 3) := by decide +kernel
theorem dX6_contains_12 : decode cX6_contains 12 = .ok (.iconst 0, 1) := by decide +kernel
theorem dX6_contains_13 : decode cX6_contains 13 = .ok (.ireturn, 1) := by decide +kernel
def fX6_contains (z1 : Int32) (z2 : Int32) : Int32 := (if ((z1 >>> (z2 &&& 31)) &&& 1) = 0 then 0 else 1)
set_option maxRecDepth 20000 in
theorem ctX6_contains {l : Launch} {G : GM} {h : List va_E} (z1 : Int32) (z2 : Int32) : Ct l G mX6_contains 0 0 0 [.int z1, .int z2] h (fun v h1 => v = some (.int (fX6_contains z1 z2)) ∧ h1 = h) := by
  show Tr l G mX6_contains 0 0 0 0 [(0, .int z1), (1, .int z2)] [] h _
  refine am_iload_n dX6_contains_0 0 rfl ?_
  refine am_iload_n dX6_contains_1 1 rfl ?_
  refine am_ishr dX6_contains_2 ?_
  refine am_iconst (v := 1) dX6_contains_3 (by decide) ?_
  refine am_iand dX6_contains_4 ?_
  refine am_if_eq dX6_contains_5 (by decide : ((5 : Nat) : Int) + (7) = ((12 : Nat) : Int)) (fun c1 => ?_) (fun c1 => ?_)
  · refine am_iconst (v := 0) dX6_contains_12 (by decide) ?_
    rw [show (fX6_contains z1 z2) = 0 from Eq.trans (if_pos c1) (rfl)]
    exact am_ireturn dX6_contains_13 rfl rfl ⟨rfl, rfl⟩
  · refine am_iconst (v := 1) dX6_contains_8 (by decide) ?_
    refine am_goto dX6_contains_9 (by decide : ((9 : Nat) : Int) + (4) = ((13 : Nat) : Int)) ?_
    rw [show (fX6_contains z1 z2) = 1 from Eq.trans (if_neg c1) (rfl)]
    exact am_ireturn dX6_contains_13 rfl rfl ⟨rfl, rfl⟩

theorem dX6_isLetter_0 : decode cX6_isLetter 0 = .ok (.iload_n 0, 1) := by decide +kernel
theorem dX6_isLetter_1 : decode cX6_isLetter 1 = .ok (.bipush 97, 2) := by decide +kernel
theorem dX6_isLetter_3 : decode cX6_isLetter 3 = .ok (.if_icmp .lt 13, 3) := by decide +kernel
theorem dX6_isLetter_6 : decode cX6_isLetter 6 = .ok (.iload_n 0, 1) := by decide +kernel
theorem dX6_isLetter_7 : decode cX6_isLetter 7 = .ok (.bipush 122, 2) := by decide +kernel
theorem dX6_isLetter_9 : decode cX6_isLetter 9 = .ok (.if_icmp .gt 7, 3) := by decide +kernel
theorem dX6_isLetter_12 : decode cX6_isLetter 12 = .ok (.iconst 1, 1) := by decide +kernel
theorem dX6_isLetter_13 : decode cX6_isLetter 13 = .ok (.goto 4, 3) := by decide +kernel
theorem dX6_isLetter_16 : decode cX6_isLetter 16 = .ok (.iconst 0, 1) := by decide +kernel
theorem dX6_isLetter_17 : decode cX6_isLetter 17 = .ok (.ireturn, 1) := by decide +kernel
def fX6_isLetter (z1 : Int32) : Int32 := (if z1 < 97 then 0 else (if 122 < z1 then 0 else 1))
set_option maxRecDepth 20000 in
theorem ctX6_isLetter {l : Launch} {G : GM} {h : List va_E} (z1 : Int32) : Ct l G mX6_isLetter 0 0 0 [.int z1] h (fun v h1 => v = some (.int (fX6_isLetter z1)) ∧ h1 = h) := by
  show Tr l G mX6_isLetter 0 0 0 0 [(0, .int z1)] [] h _
  refine am_iload_n dX6_isLetter_0 0 rfl ?_
  refine am_bipush (v := 97) dX6_isLetter_1 (by decide) ?_
  refine am_icmp_lt dX6_isLetter_3 (by decide : ((3 : Nat) : Int) + (13) = ((16 : Nat) : Int)) (fun c1 => ?_) (fun c1 => ?_)
  · refine am_iconst (v := 0) dX6_isLetter_16 (by decide) ?_
    rw [show (fX6_isLetter z1) = 0 from Eq.trans (if_pos c1) (rfl)]
    exact am_ireturn dX6_isLetter_17 rfl rfl ⟨rfl, rfl⟩
  · refine am_iload_n dX6_isLetter_6 0 rfl ?_
    refine am_bipush (v := 122) dX6_isLetter_7 (by decide) ?_
    refine am_icmp_gt dX6_isLetter_9 (by decide : ((9 : Nat) : Int) + (7) = ((16 : Nat) : Int)) (fun c2 => ?_) (fun c2 => ?_)
    · refine am_iconst (v := 0) dX6_isLetter_16 (by decide) ?_
      rw [show (fX6_isLetter z1) = 0 from Eq.trans (if_neg c1) (Eq.trans (if_pos c2) (rfl))]
      exact am_ireturn dX6_isLetter_17 rfl rfl ⟨rfl, rfl⟩
    · refine am_iconst (v := 1) dX6_isLetter_12 (by decide) ?_
      refine am_goto dX6_isLetter_13 (by decide : ((13 : Nat) : Int) + (4) = ((17 : Nat) : Int)) ?_
      rw [show (fX6_isLetter z1) = 1 from Eq.trans (if_neg c1) (Eq.trans (if_neg c2) (rfl))]
      exact am_ireturn dX6_isLetter_17 rfl rfl ⟨rfl, rfl⟩

theorem dX6_indexOfName_0 : decode cX6_indexOfName 0 = .ok (.iconst 0, 1) := by decide +kernel
theorem dX6_indexOfName_1 : decode cX6_indexOfName 1 = .ok (.istore_n 3, 1) := by decide +kernel
theorem dX6_indexOfName_2 : decode cX6_indexOfName 2 = .ok (.iload_n 3, 1) := by decide +kernel
theorem dX6_indexOfName_3 : decode cX6_indexOfName 3 = .ok (.iload_n 1, 1) := by decide +kernel
theorem dX6_indexOfName_4 : decode cX6_indexOfName 4 = .ok (.if_icmp .ge 20, 3) := by decide +kernel
theorem dX6_indexOfName_7 : decode cX6_indexOfName 7 = .ok (.aload_n 0, 1) := by decide +kernel
theorem dX6_indexOfName_8 : decode cX6_indexOfName 8 = .ok (.iload_n 3, 1) := by decide +kernel
theorem dX6_indexOfName_9 : decode cX6_indexOfName 9 = .ok (.invokestatic 144, 3) := by decide +kernel
theorem dX6_indexOfName_12 : decode cX6_indexOfName 12 = .ok (.iload_n 2, 1) := by decide +kernel
theorem dX6_indexOfName_13 : decode cX6_indexOfName 13 = .ok (.if_icmp .ne 5, 3) := by decide +kernel
theorem dX6_indexOfName_16 : decode cX6_indexOfName 16 = .ok (.iload_n 3, 1) := by decide +kernel
theorem dX6_indexOfName_17 : decode cX6_indexOfName 17 = .ok (.ireturn, 1) := by decide +kernel
theorem dX6_indexOfName_18 : decode cX6_indexOfName 18 = .ok (.iinc 3 1, 3) := by decide +kernel
theorem dX6_indexOfName_21 : decode cX6_indexOfName 21 = .ok (.goto (-19), 3) := by decide +kernel
theorem dX6_indexOfName_24 : decode cX6_indexOfName 24 = .ok (.iconst (-1), 1) := by decide +kernel
theorem dX6_indexOfName_25 : decode cX6_indexOfName 25 = .ok (.ireturn, 1) := by decide +kernel
def fX6_indexOfName_2 (n : Nat) (f : Nat → Int32) (z2 : Int32) (z3 : Int32) : Nat → Int32 → Int32
  | 0, _ => 0
  | fu + 1, x3 => (if z2 ≤ x3 then (-1) else (if (fX6_at n f x3) = z3 then x3 else (fX6_indexOfName_2 n f z2 z3 fu (x3 + 1))))
set_option maxRecDepth 20000 in
theorem wX6_indexOfName_2 {l : Launch} {G : GM} {h : List va_E} {a n : Nat} {f : Nat → Int32} (hr1 : h[a]? = some (.inl (0, n, .inl f))) (hn1 : n < 2147483648) (z2 : Int32) (z3 : Int32) : ∀ (fu : Nat) (x3 : Int32) (iv : ivU z2 x3 fu), Tr l G mX6_indexOfName 1 0 0 2 [(3, .int x3), (0, .ref (gz G + a)), (1, .int z2), (2, .int z3)] [] h (fun v h1 => v = some (.int (fX6_indexOfName_2 n f z2 z3 fu x3)) ∧ h1 = h) := by
  intro fu
  induction fu with
  | zero => intro x3 iv; intros; exact absurd iv ivU_0
  | succ fu ih =>
    intro x3 iv   
    refine am_iload_n dX6_indexOfName_2 0 rfl ?_
    refine am_iload_n dX6_indexOfName_3 2 rfl ?_
    refine am_icmp_ge dX6_indexOfName_4 (by decide : ((4 : Nat) : Int) + (20) = ((24 : Nat) : Int)) (fun c1 => ?_) (fun c1 => ?_)
    · refine am_iconst (v := (-1)) dX6_indexOfName_24 (by decide) ?_
      rw [show (fX6_indexOfName_2 n f z2 z3 (fu + 1) x3) = (-1) from Eq.trans (if_pos c1) (rfl)]
      exact am_ireturn dX6_indexOfName_25 rfl rfl ⟨rfl, rfl⟩
    · refine am_aload_n dX6_indexOfName_7 1 rfl ?_
      refine am_iload_n dX6_indexOfName_8 0 rfl ?_
      refine am_callS (As := [.ref (gz G + a), .int x3]) (rest := []) dX6_indexOfName_9 kMX6_144 rfl  rfl (Nat.le_of_ble_eq_true rfl) (d2 := 0) (by decide) (k2 := 0) (Nat.zero_le _) (u2 := 0) (Nat.zero_le _) (Nat.le_of_ble_eq_true rfl) (ctX6_at hr1 hn1 x3) (fun v2 h3 q4 => ?_)
      obtain ⟨rfl, rfl⟩ := q4
      refine am_iload_n dX6_indexOfName_12 3 rfl ?_
      refine am_icmp_ne dX6_indexOfName_13 (by decide : ((13 : Nat) : Int) + (5) = ((18 : Nat) : Int)) (fun c5 => ?_) (fun c5 => ?_)
      · refine am_iinc (v := (x3 + 1)) dX6_indexOfName_18 0 rfl rfl (by decide) (lv' := [(3, .int (x3 + 1)), (0, .ref (gz G + a)), (1, .int z2), (2, .int z3)]) rfl ?_
        refine am_goto dX6_indexOfName_21 (by decide : ((21 : Nat) : Int) + (-19) = ((2 : Nat) : Int)) ?_
        rw [show (fX6_indexOfName_2 n f z2 z3 (fu + 1) x3) = (fX6_indexOfName_2 n f z2 z3 fu (x3 + 1)) from Eq.trans (if_neg c1) (Eq.trans (if_neg c5) (rfl))]
        exact ih (x3 + 1) (ivU_s c1 iv) 
      · refine am_iload_n dX6_indexOfName_16 0 rfl ?_
        rw [show (fX6_indexOfName_2 n f z2 z3 (fu + 1) x3) = x3 from Eq.trans (if_neg c1) (Eq.trans (if_pos c5) (rfl))]
        exact am_ireturn dX6_indexOfName_17 rfl rfl ⟨rfl, rfl⟩
def fX6_indexOfName (n : Nat) (f : Nat → Int32) (z2 : Int32) (z3 : Int32) : Int32 := (fX6_indexOfName_2 n f z2 z3 (fuU z2 0) 0)
set_option maxRecDepth 20000 in
theorem ctX6_indexOfName {l : Launch} {G : GM} {h : List va_E} {a n : Nat} {f : Nat → Int32} (hr1 : h[a]? = some (.inl (0, n, .inl f))) (hn1 : n < 2147483648) (z2 : Int32) (z3 : Int32) : Ct l G mX6_indexOfName 1 0 0 [.ref (gz G + a), .int z2, .int z3] h (fun v h1 => v = some (.int (fX6_indexOfName n f z2 z3)) ∧ h1 = h) := by
  show Tr l G mX6_indexOfName 1 0 0 0 [(0, .ref (gz G + a)), (1, .int z2), (2, .int z3)] [] h _
  refine am_iconst (v := 0) dX6_indexOfName_0 (by decide) ?_
  refine am_istore_n dX6_indexOfName_1 (by decide) (lv' := [(3, .int 0), (0, .ref (gz G + a)), (1, .int z2), (2, .int z3)]) rfl ?_
  rw [show (fX6_indexOfName n f z2 z3) = (fX6_indexOfName_2 n f z2 z3 (fuU z2 0) 0) from rfl]
  exact wX6_indexOfName_2 hr1 hn1 z2 z3 (fuU z2 0) 0 ivU_i

theorem dX6_packName_0 : decode cX6_packName 0 = .ok (.iload_n 2, 1) := by decide +kernel
theorem dX6_packName_1 : decode cX6_packName 1 = .ok (.iload_n 1, 1) := by decide +kernel
theorem dX6_packName_2 : decode cX6_packName 2 = .ok (.isub, 1) := by decide +kernel
theorem dX6_packName_3 : decode cX6_packName 3 = .ok (.iconst 1, 1) := by decide +kernel
theorem dX6_packName_4 : decode cX6_packName 4 = .ok (.if_icmp .lt 11, 3) := by decide +kernel
theorem dX6_packName_7 : decode cX6_packName 7 = .ok (.iload_n 2, 1) := by decide +kernel
theorem dX6_packName_8 : decode cX6_packName 8 = .ok (.iload_n 1, 1) := by decide +kernel
theorem dX6_packName_9 : decode cX6_packName 9 = .ok (.isub, 1) := by decide +kernel
theorem dX6_packName_10 : decode cX6_packName 10 = .ok (.bipush 6, 2) := by decide +kernel
theorem dX6_packName_12 : decode cX6_packName 12 = .ok (.if_icmp .le 5, 3) := by decide +kernel
theorem dX6_packName_15 : decode cX6_packName 15 = .ok (.iconst (-1), 1) := by decide +kernel
theorem dX6_packName_16 : decode cX6_packName 16 = .ok (.ireturn, 1) := by decide +kernel
theorem dX6_packName_17 : decode cX6_packName 17 = .ok (.iconst 0, 1) := by decide +kernel
theorem dX6_packName_18 : decode cX6_packName 18 = .ok (.istore_n 3, 1) := by decide +kernel
theorem dX6_packName_19 : decode cX6_packName 19 = .ok (.iload_n 1, 1) := by decide +kernel
theorem dX6_packName_20 : decode cX6_packName 20 = .ok (.istore 4, 2) := by decide +kernel
theorem dX6_packName_22 : decode cX6_packName 22 = .ok (.iload 4, 2) := by decide +kernel
theorem dX6_packName_24 : decode cX6_packName 24 = .ok (.iload_n 2, 1) := by decide +kernel
theorem dX6_packName_25 : decode cX6_packName 25 = .ok (.if_icmp .ge 39, 3) := by decide +kernel
theorem dX6_packName_28 : decode cX6_packName 28 = .ok (.aload_n 0, 1) := by decide +kernel
theorem dX6_packName_29 : decode cX6_packName 29 = .ok (.iload 4, 2) := by decide +kernel
theorem dX6_packName_31 : decode cX6_packName 31 = .ok (.invokestatic 144, 3) := by decide +kernel
theorem dX6_packName_34 : decode cX6_packName 34 = .ok (.istore 5, 2) := by decide +kernel
theorem dX6_packName_36 : decode cX6_packName 36 = .ok (.iload 5, 2) := by decide +kernel
theorem dX6_packName_38 : decode cX6_packName 38 = .ok (.invokestatic 384, 3) := by decide +kernel
theorem dX6_packName_41 : decode cX6_packName 41 = .ok (.ifCond .ne 5, 3) := by decide +kernel
theorem dX6_packName_44 : decode cX6_packName 44 = .ok (.iconst (-1), 1) := by decide +kernel
theorem dX6_packName_45 : decode cX6_packName 45 = .ok (.ireturn, 1) := by decide +kernel
theorem dX6_packName_46 : decode cX6_packName 46 = .ok (.iload_n 3, 1) := by decide +kernel
theorem dX6_packName_47 : decode cX6_packName 47 = .ok (.iconst 5, 1) := by decide +kernel
theorem dX6_packName_48 : decode cX6_packName 48 = .ok (.ishl, 1) := by decide +kernel
theorem dX6_packName_49 : decode cX6_packName 49 = .ok (.iload 5, 2) := by decide +kernel
theorem dX6_packName_51 : decode cX6_packName 51 = .ok (.bipush 97, 2) := by decide +kernel
theorem dX6_packName_53 : decode cX6_packName 53 = .ok (.isub, 1) := by decide +kernel
theorem dX6_packName_54 : decode cX6_packName 54 = .ok (.iconst 1, 1) := by decide +kernel
theorem dX6_packName_55 : decode cX6_packName 55 = .ok (.iadd, 1) := by decide +kernel
theorem dX6_packName_56 : decode cX6_packName 56 = .ok (.ior, 1) := by decide +kernel
theorem dX6_packName_57 : decode cX6_packName 57 = .ok (.istore_n 3, 1) := by decide +kernel
theorem dX6_packName_58 : decode cX6_packName 58 = .ok (.iinc 4 1, 3) := by decide +kernel
theorem dX6_packName_61 : decode cX6_packName 61 = .ok (.goto (-39), 3) := by decide +kernel
theorem dX6_packName_64 : decode cX6_packName 64 = .ok (.iload_n 3, 1) := by decide +kernel
theorem dX6_packName_65 : decode cX6_packName 65 = .ok (.ireturn, 1) := by decide +kernel
def fX6_packName_22 (n : Nat) (f : Nat → Int32) (z2 : Int32) (z3 : Int32) : Nat → Int32 → Int32 → Int32
  | 0, _, _ => 0
  | fu + 1, x4, x3 => (if z3 ≤ x4 then x3 else (if (fX6_isLetter (fX6_at n f x4)) = 0 then (-1) else (fX6_packName_22 n f z2 z3 fu (x4 + 1) ((x3 <<< (5 &&& 31)) ||| (((fX6_at n f x4) - 97) + 1)))))
set_option maxRecDepth 20000 in
theorem wX6_packName_22 {l : Launch} {G : GM} {h : List va_E} {a n : Nat} {f : Nat → Int32} (hr1 : h[a]? = some (.inl (0, n, .inl f))) (hn1 : n < 2147483648) (z2 : Int32) (z3 : Int32) : ∀ (fu : Nat) (x4 x3 : Int32) (iv : ivU z3 x4 fu), Tr l G mX6_packName 1 0 0 22 [(4, .int x4), (3, .int x3), (0, .ref (gz G + a)), (2, .int z3)] [] h (fun v h1 => v = some (.int (fX6_packName_22 n f z2 z3 fu x4 x3)) ∧ h1 = h) := by
  intro fu
  induction fu with
  | zero => intro x4 x3 iv; intros; exact absurd iv ivU_0
  | succ fu ih =>
    intro x4 x3 iv   
    refine am_iload dX6_packName_22 0 rfl ?_
    refine am_iload_n dX6_packName_24 3 rfl ?_
    refine am_icmp_ge dX6_packName_25 (by decide : ((25 : Nat) : Int) + (39) = ((64 : Nat) : Int)) (fun c3 => ?_) (fun c3 => ?_)
    · refine am_iload_n dX6_packName_64 1 rfl ?_
      rw [show (fX6_packName_22 n f z2 z3 (fu + 1) x4 x3) = x3 from Eq.trans (if_pos c3) (rfl)]
      exact am_ireturn dX6_packName_65 rfl rfl ⟨rfl, rfl⟩
    · refine am_aload_n dX6_packName_28 2 rfl ?_
      refine am_iload dX6_packName_29 0 rfl ?_
      refine am_callS (As := [.ref (gz G + a), .int x4]) (rest := []) dX6_packName_31 kMX6_144 rfl  rfl (Nat.le_of_ble_eq_true rfl) (d2 := 0) (by decide) (k2 := 0) (Nat.zero_le _) (u2 := 0) (Nat.zero_le _) (Nat.le_of_ble_eq_true rfl) (ctX6_at hr1 hn1 x4) (fun v4 h5 q6 => ?_)
      obtain ⟨rfl, rfl⟩ := q6
      refine am_istore dX6_packName_34 (by decide) (lv' := [(5, .int (fX6_at n f x4)), (4, .int x4), (3, .int x3), (0, .ref (gz G + a)), (2, .int z3)]) rfl ?_
      refine am_iload dX6_packName_36 0 rfl ?_
      refine am_callS (As := [.int (fX6_at n f x4)]) (rest := []) dX6_packName_38 kMX6_384 rfl  rfl (Nat.le_of_ble_eq_true rfl) (d2 := 0) (by decide) (k2 := 0) (Nat.zero_le _) (u2 := 0) (Nat.zero_le _) (Nat.le_of_ble_eq_true rfl) (ctX6_isLetter (fX6_at n f x4)) (fun v7 h8 q9 => ?_)
      obtain ⟨rfl, rfl⟩ := q9
      refine am_if_ne dX6_packName_41 (by decide : ((41 : Nat) : Int) + (5) = ((46 : Nat) : Int)) (fun c10 => ?_) (fun c10 => ?_)
      · refine am_iload_n dX6_packName_46 2 rfl ?_
        refine am_iconst (v := 5) dX6_packName_47 (by decide) ?_
        refine am_ishl dX6_packName_48 ?_
        refine am_iload dX6_packName_49 0 rfl ?_
        refine am_bipush (v := 97) dX6_packName_51 (by decide) ?_
        refine am_isub dX6_packName_53 ?_
        refine am_iconst (v := 1) dX6_packName_54 (by decide) ?_
        refine am_iadd dX6_packName_55 ?_
        refine am_ior dX6_packName_56 ?_
        refine am_istore_n dX6_packName_57 (by decide) (lv' := [(3, .int ((x3 <<< (5 &&& 31)) ||| (((fX6_at n f x4) - 97) + 1))), (5, .int (fX6_at n f x4)), (4, .int x4), (0, .ref (gz G + a)), (2, .int z3)]) rfl ?_
        refine am_iinc (v := (x4 + 1)) dX6_packName_58 2 rfl rfl (by decide) (lv' := [(4, .int (x4 + 1)), (3, .int ((x3 <<< (5 &&& 31)) ||| (((fX6_at n f x4) - 97) + 1))), (5, .int (fX6_at n f x4)), (0, .ref (gz G + a)), (2, .int z3)]) rfl ?_
        refine am_goto dX6_packName_61 (by decide : ((61 : Nat) : Int) + (-39) = ((22 : Nat) : Int)) ?_
        refine am_lv (lv' := [(4, .int (x4 + 1)), (3, .int ((x3 <<< (5 &&& 31)) ||| (((fX6_at n f x4) - 97) + 1))), (0, .ref (gz G + a)), (2, .int z3)]) [0, 1, 3, 4] rfl ?_
        rw [show (fX6_packName_22 n f z2 z3 (fu + 1) x4 x3) = (fX6_packName_22 n f z2 z3 fu (x4 + 1) ((x3 <<< (5 &&& 31)) ||| (((fX6_at n f x4) - 97) + 1))) from Eq.trans (if_neg c3) (Eq.trans (if_neg c10) (rfl))]
        exact ih (x4 + 1) ((x3 <<< (5 &&& 31)) ||| (((fX6_at n f x4) - 97) + 1)) (ivU_s c3 iv) 
      · refine am_iconst (v := (-1)) dX6_packName_44 (by decide) ?_
        rw [show (fX6_packName_22 n f z2 z3 (fu + 1) x4 x3) = (-1) from Eq.trans (if_neg c3) (Eq.trans (if_pos c10) (rfl))]
        exact am_ireturn dX6_packName_45 rfl rfl ⟨rfl, rfl⟩
def fX6_packName (n : Nat) (f : Nat → Int32) (z2 : Int32) (z3 : Int32) : Int32 := (if (z3 - z2) < 1 then (-1) else (if (z3 - z2) ≤ 6 then (fX6_packName_22 n f z2 z3 (fuU z3 z2) z2 0) else (-1)))
set_option maxRecDepth 20000 in
theorem ctX6_packName {l : Launch} {G : GM} {h : List va_E} {a n : Nat} {f : Nat → Int32} (hr1 : h[a]? = some (.inl (0, n, .inl f))) (hn1 : n < 2147483648) (z2 : Int32) (z3 : Int32) : Ct l G mX6_packName 1 0 0 [.ref (gz G + a), .int z2, .int z3] h (fun v h1 => v = some (.int (fX6_packName n f z2 z3)) ∧ h1 = h) := by
  show Tr l G mX6_packName 1 0 0 0 [(0, .ref (gz G + a)), (1, .int z2), (2, .int z3)] [] h _
  refine am_iload_n dX6_packName_0 2 rfl ?_
  refine am_iload_n dX6_packName_1 1 rfl ?_
  refine am_isub dX6_packName_2 ?_
  refine am_iconst (v := 1) dX6_packName_3 (by decide) ?_
  refine am_icmp_lt dX6_packName_4 (by decide : ((4 : Nat) : Int) + (11) = ((15 : Nat) : Int)) (fun c1 => ?_) (fun c1 => ?_)
  · refine am_iconst (v := (-1)) dX6_packName_15 (by decide) ?_
    rw [show (fX6_packName n f z2 z3) = (-1) from Eq.trans (if_pos c1) (rfl)]
    exact am_ireturn dX6_packName_16 rfl rfl ⟨rfl, rfl⟩
  · refine am_iload_n dX6_packName_7 2 rfl ?_
    refine am_iload_n dX6_packName_8 1 rfl ?_
    refine am_isub dX6_packName_9 ?_
    refine am_bipush (v := 6) dX6_packName_10 (by decide) ?_
    refine am_icmp_le dX6_packName_12 (by decide : ((12 : Nat) : Int) + (5) = ((17 : Nat) : Int)) (fun c2 => ?_) (fun c2 => ?_)
    · refine am_iconst (v := 0) dX6_packName_17 (by decide) ?_
      refine am_istore_n dX6_packName_18 (by decide) (lv' := [(3, .int 0), (0, .ref (gz G + a)), (1, .int z2), (2, .int z3)]) rfl ?_
      refine am_iload_n dX6_packName_19 2 rfl ?_
      refine am_istore dX6_packName_20 (by decide) (lv' := [(4, .int z2), (3, .int 0), (0, .ref (gz G + a)), (1, .int z2), (2, .int z3)]) rfl ?_
      refine am_lv (lv' := [(4, .int z2), (3, .int 0), (0, .ref (gz G + a)), (2, .int z3)]) [0, 1, 2, 4] rfl ?_
      rw [show (fX6_packName n f z2 z3) = (fX6_packName_22 n f z2 z3 (fuU z3 z2) z2 0) from Eq.trans (if_neg c1) (Eq.trans (if_pos c2) (rfl))]
      exact wX6_packName_22 hr1 hn1 z2 z3 (fuU z3 z2) z2 0 ivU_i
    · refine am_iconst (v := (-1)) dX6_packName_15 (by decide) ?_
      rw [show (fX6_packName n f z2 z3) = (-1) from Eq.trans (if_neg c1) (Eq.trans (if_neg c2) (rfl))]
      exact am_ireturn dX6_packName_16 rfl rfl ⟨rfl, rfl⟩

def fX0_sizeHolding_2 (p : Pl) (z1 : Int32) (z2 : Int32) : Nat → Int32 → Int32
  | 0, _ => 0
  | fu + 1, x3 => (if (p.1 2) ≤ x3 then (-1) else (if z1 < (fX6_at 6 (p.2 6) x3) then (fX0_sizeHolding_2 p z1 z2 fu (x3 + 1)) else (if (fX6_at 6 (p.2 7) x3) < z2 then (fX0_sizeHolding_2 p z1 z2 fu (x3 + 1)) else x3)))
def fX0_sizeHolding (p : Pl) (z1 : Int32) (z2 : Int32) : Int32 := (fX0_sizeHolding_2 p z1 z2 (fuU (p.1 2) 0) 0)
theorem dX5_isBoarded_0 : decode cX5_isBoarded 0 = .ok (.aload_n 0, 1) := by decide +kernel
theorem dX5_isBoarded_1 : decode cX5_isBoarded 1 = .ok (.getfield 34, 3) := by decide +kernel
theorem dX5_isBoarded_4 : decode cX5_isBoarded 4 = .ok (.iload_n 1, 1) := by decide +kernel
theorem dX5_isBoarded_5 : decode cX5_isBoarded 5 = .ok (.invokestatic 79, 3) := by decide +kernel
theorem dX5_isBoarded_8 : decode cX5_isBoarded 8 = .ok (.iconst 1, 1) := by decide +kernel
theorem dX5_isBoarded_9 : decode cX5_isBoarded 9 = .ok (.if_icmp .ne 7, 3) := by decide +kernel
theorem dX5_isBoarded_12 : decode cX5_isBoarded 12 = .ok (.iconst 1, 1) := by decide +kernel
theorem dX5_isBoarded_13 : decode cX5_isBoarded 13 = .ok (.goto 4, 3) := by decide +kernel
theorem dX5_isBoarded_16 : decode cX5_isBoarded 16 = .ok (.iconst 0, 1) := by decide +kernel
theorem dX5_isBoarded_17 : decode cX5_isBoarded 17 = .ok (.ireturn, 1) := by decide +kernel
def fX5_isBoarded (p : Pl) (z1 : Int32) : Int32 := (if (fX6_at 14 (p.2 13) z1) = 1 then 1 else 0)
set_option maxRecDepth 20000 in
theorem ctX5_isBoarded {l : Launch} {G : GM} {h : List va_E} {b : Nat} {p : Pl} (hp : PlantAt G h b p) (z1 : Int32) : Ct l G mX5_isBoarded 1 0 0 [.ref (gz G + b), .int z1] h (fun v h1 => v = some (.int (fX5_isBoarded p z1)) ∧ h1 = h) := by
  show Tr l G mX5_isBoarded 1 0 0 0 [(0, .ref (gz G + b)), (1, .int z1)] [] h _
  refine am_aload_n dX5_isBoarded_0 0 rfl ?_
  refine am_get dX5_isBoarded_1 kGX5_34 (pl_0 hp) rfl ?_
  refine am_iload_n dX5_isBoarded_4 1 rfl ?_
  refine am_callSN (As := [.ref (gz G + (b + 15)), .int z1]) (rest := []) dX5_isBoarded_5 kMX5_79 rfl  rfl (Nat.le_of_ble_eq_true rfl) (d2 := 0) (by decide) (k2 := 0) (Nat.zero_le _) (u2 := 0) (Nat.zero_le _) (Nat.le_of_ble_eq_true rfl) (ctX6_at (pl_r13 hp) (by decide) z1) (fun v1 h2 q3 => ?_)
  obtain ⟨rfl, rfl⟩ := q3
  refine am_iconst (v := 1) dX5_isBoarded_8 (by decide) ?_
  refine am_icmp_ne dX5_isBoarded_9 (by decide : ((9 : Nat) : Int) + (7) = ((16 : Nat) : Int)) (fun c4 => ?_) (fun c4 => ?_)
  · refine am_iconst (v := 0) dX5_isBoarded_16 (by decide) ?_
    rw [show (fX5_isBoarded p z1) = 0 from Eq.trans (if_neg c4) (rfl)]
    exact am_ireturn dX5_isBoarded_17 rfl rfl ⟨rfl, rfl⟩
  · refine am_iconst (v := 1) dX5_isBoarded_12 (by decide) ?_
    refine am_goto dX5_isBoarded_13 (by decide : ((13 : Nat) : Int) + (4) = ((17 : Nat) : Int)) ?_
    rw [show (fX5_isBoarded p z1) = 1 from Eq.trans (if_pos c4) (rfl)]
    exact am_ireturn dX5_isBoarded_17 rfl rfl ⟨rfl, rfl⟩

def fX5_canBeBoarded (p : Pl) (z1 : Int32) : Int32 := (if (fX6_at 14 (p.2 13) z1) = 0 then 1 else (if (fX6_at 14 (p.2 13) z1) = 1 then 1 else 0))
theorem dX5_stretchOf_0 : decode cX5_stretchOf 0 = .ok (.aload_n 0, 1) := by decide +kernel
theorem dX5_stretchOf_1 : decode cX5_stretchOf 1 = .ok (.getfield 12, 3) := by decide +kernel
theorem dX5_stretchOf_4 : decode cX5_stretchOf 4 = .ok (.getfield 83, 3) := by decide +kernel
theorem dX5_stretchOf_7 : decode cX5_stretchOf 7 = .ok (.aload_n 0, 1) := by decide +kernel
theorem dX5_stretchOf_8 : decode cX5_stretchOf 8 = .ok (.getfield 18, 3) := by decide +kernel
theorem dX5_stretchOf_11 : decode cX5_stretchOf 11 = .ok (.iload_n 1, 1) := by decide +kernel
theorem dX5_stretchOf_12 : decode cX5_stretchOf 12 = .ok (.invokestatic 79, 3) := by decide +kernel
theorem dX5_stretchOf_15 : decode cX5_stretchOf 15 = .ok (.invokestatic 79, 3) := by decide +kernel
theorem dX5_stretchOf_18 : decode cX5_stretchOf 18 = .ok (.istore_n 2, 1) := by decide +kernel
theorem dX5_stretchOf_19 : decode cX5_stretchOf 19 = .ok (.aload_n 0, 1) := by decide +kernel
theorem dX5_stretchOf_20 : decode cX5_stretchOf 20 = .ok (.getfield 22, 3) := by decide +kernel
theorem dX5_stretchOf_23 : decode cX5_stretchOf 23 = .ok (.iload_n 1, 1) := by decide +kernel
theorem dX5_stretchOf_24 : decode cX5_stretchOf 24 = .ok (.invokestatic 79, 3) := by decide +kernel
theorem dX5_stretchOf_27 : decode cX5_stretchOf 27 = .ok (.istore_n 3, 1) := by decide +kernel
theorem dX5_stretchOf_28 : decode cX5_stretchOf 28 = .ok (.iload_n 3, 1) := by decide +kernel
theorem dX5_stretchOf_29 : decode cX5_stretchOf 29 = .ok (.iconst 1, 1) := by decide +kernel
theorem dX5_stretchOf_30 : decode cX5_stretchOf 30 = .ok (.if_icmp .ne 8, 3) := by decide +kernel
theorem dX5_stretchOf_33 : decode cX5_stretchOf 33 = .ok (.iload_n 2, 1) := by decide +kernel
theorem dX5_stretchOf_34 : decode cX5_stretchOf 34 = .ok (.bipush 20, 2) := by decide +kernel
theorem dX5_stretchOf_36 : decode cX5_stretchOf 36 = .ok (.iadd, 1) := by decide +kernel
theorem dX5_stretchOf_37 : decode cX5_stretchOf 37 = .ok (.ireturn, 1) := by decide +kernel
theorem dX5_stretchOf_38 : decode cX5_stretchOf 38 = .ok (.iload_n 3, 1) := by decide +kernel
theorem dX5_stretchOf_39 : decode cX5_stretchOf 39 = .ok (.iconst 2, 1) := by decide +kernel
theorem dX5_stretchOf_40 : decode cX5_stretchOf 40 = .ok (.if_icmp .ne 14, 3) := by decide +kernel
theorem dX5_stretchOf_43 : decode cX5_stretchOf 43 = .ok (.iconst 1, 1) := by decide +kernel
theorem dX5_stretchOf_44 : decode cX5_stretchOf 44 = .ok (.iload_n 2, 1) := by decide +kernel
theorem dX5_stretchOf_45 : decode cX5_stretchOf 45 = .ok (.bipush 10, 2) := by decide +kernel
theorem dX5_stretchOf_47 : decode cX5_stretchOf 47 = .ok (.isub, 1) := by decide +kernel
theorem dX5_stretchOf_48 : decode cX5_stretchOf 48 = .ok (.invokestatic 86, 3) := by decide +kernel
theorem dX5_stretchOf_51 : decode cX5_stretchOf 51 = .ok (.goto 4, 3) := by decide +kernel
theorem dX5_stretchOf_54 : decode cX5_stretchOf 54 = .ok (.iload_n 2, 1) := by decide +kernel
theorem dX5_stretchOf_55 : decode cX5_stretchOf 55 = .ok (.ireturn, 1) := by decide +kernel
def fX5_stretchOf (p : Pl) (z1 : Int32) : Int32 := (if (fX6_at 14 (p.2 9) z1) = 1 then ((fX6_at 6 (p.2 1) (fX6_at 14 (p.2 8) z1)) + 20) else (if (fX6_at 14 (p.2 9) z1) = 2 then (imx 1 ((fX6_at 6 (p.2 1) (fX6_at 14 (p.2 8) z1)) - 10)) else (fX6_at 6 (p.2 1) (fX6_at 14 (p.2 8) z1))))
set_option maxRecDepth 20000 in
theorem ctX5_stretchOf {l : Launch} {G : GM} {h : List va_E} {b : Nat} {p : Pl} (hp : PlantAt G h b p) (z1 : Int32) : Ct l G mX5_stretchOf 1 0 0 [.ref (gz G + b), .int z1] h (fun v h1 => v = some (.int (fX5_stretchOf p z1)) ∧ h1 = h) := by
  show Tr l G mX5_stretchOf 1 0 0 0 [(0, .ref (gz G + b)), (1, .int z1)] [] h _
  refine am_aload_n dX5_stretchOf_0 0 rfl ?_
  refine am_get dX5_stretchOf_1 kGX5_12 (pl_0 hp) rfl ?_
  refine am_get dX5_stretchOf_4 kGX5_83 (pl_1 hp) rfl ?_
  refine am_aload_n dX5_stretchOf_7 0 rfl ?_
  refine am_get dX5_stretchOf_8 kGX5_18 (pl_0 hp) rfl ?_
  refine am_iload_n dX5_stretchOf_11 1 rfl ?_
  refine am_callSN (As := [.ref (gz G + (b + 10)), .int z1]) (rest := [.ref (gz G + (b + 3))]) dX5_stretchOf_12 kMX5_79 rfl  rfl (Nat.le_of_ble_eq_true rfl) (d2 := 0) (by decide) (k2 := 0) (Nat.zero_le _) (u2 := 0) (Nat.zero_le _) (Nat.le_of_ble_eq_true rfl) (ctX6_at (pl_r8 hp) (by decide) z1) (fun v1 h2 q3 => ?_)
  obtain ⟨rfl, rfl⟩ := q3
  refine am_callSN (As := [.ref (gz G + (b + 3)), .int (fX6_at 14 (p.2 8) z1)]) (rest := []) dX5_stretchOf_15 kMX5_79 rfl  rfl (Nat.le_of_ble_eq_true rfl) (d2 := 0) (by decide) (k2 := 0) (Nat.zero_le _) (u2 := 0) (Nat.zero_le _) (Nat.le_of_ble_eq_true rfl) (ctX6_at (pl_r1 hp) (by decide) (fX6_at 14 (p.2 8) z1)) (fun v4 h5 q6 => ?_)
  obtain ⟨rfl, rfl⟩ := q6
  refine am_istore_n dX5_stretchOf_18 (by decide) (lv' := [(2, .int (fX6_at 6 (p.2 1) (fX6_at 14 (p.2 8) z1))), (0, .ref (gz G + b)), (1, .int z1)]) rfl ?_
  refine am_aload_n dX5_stretchOf_19 1 rfl ?_
  refine am_get dX5_stretchOf_20 kGX5_22 (pl_0 hp) rfl ?_
  refine am_iload_n dX5_stretchOf_23 2 rfl ?_
  refine am_callSN (As := [.ref (gz G + (b + 11)), .int z1]) (rest := []) dX5_stretchOf_24 kMX5_79 rfl  rfl (Nat.le_of_ble_eq_true rfl) (d2 := 0) (by decide) (k2 := 0) (Nat.zero_le _) (u2 := 0) (Nat.zero_le _) (Nat.le_of_ble_eq_true rfl) (ctX6_at (pl_r9 hp) (by decide) z1) (fun v7 h8 q9 => ?_)
  obtain ⟨rfl, rfl⟩ := q9
  refine am_istore_n dX5_stretchOf_27 (by decide) (lv' := [(3, .int (fX6_at 14 (p.2 9) z1)), (2, .int (fX6_at 6 (p.2 1) (fX6_at 14 (p.2 8) z1))), (0, .ref (gz G + b)), (1, .int z1)]) rfl ?_
  refine am_iload_n dX5_stretchOf_28 0 rfl ?_
  refine am_iconst (v := 1) dX5_stretchOf_29 (by decide) ?_
  refine am_icmp_ne dX5_stretchOf_30 (by decide : ((30 : Nat) : Int) + (8) = ((38 : Nat) : Int)) (fun c10 => ?_) (fun c10 => ?_)
  · refine am_iload_n dX5_stretchOf_38 0 rfl ?_
    refine am_iconst (v := 2) dX5_stretchOf_39 (by decide) ?_
    refine am_icmp_ne dX5_stretchOf_40 (by decide : ((40 : Nat) : Int) + (14) = ((54 : Nat) : Int)) (fun c11 => ?_) (fun c11 => ?_)
    · refine am_iload_n dX5_stretchOf_54 1 rfl ?_
      rw [show (fX5_stretchOf p z1) = (fX6_at 6 (p.2 1) (fX6_at 14 (p.2 8) z1)) from Eq.trans (if_neg c10) (Eq.trans (if_neg c11) (rfl))]
      exact am_ireturn dX5_stretchOf_55 rfl rfl ⟨rfl, rfl⟩
    · refine am_iconst (v := 1) dX5_stretchOf_43 (by decide) ?_
      refine am_iload_n dX5_stretchOf_44 1 rfl ?_
      refine am_bipush (v := 10) dX5_stretchOf_45 (by decide) ?_
      refine am_isub dX5_stretchOf_47 ?_
      refine am_mmax dX5_stretchOf_48 kXX5_86 (Nat.le_of_ble_eq_true rfl) (by decide) ?_
      refine am_goto dX5_stretchOf_51 (by decide : ((51 : Nat) : Int) + (4) = ((55 : Nat) : Int)) ?_
      rw [show (fX5_stretchOf p z1) = (imx 1 ((fX6_at 6 (p.2 1) (fX6_at 14 (p.2 8) z1)) - 10)) from Eq.trans (if_neg c10) (Eq.trans (if_pos c11) (rfl))]
      exact am_ireturn dX5_stretchOf_55 rfl rfl ⟨rfl, rfl⟩
  · refine am_iload_n dX5_stretchOf_33 1 rfl ?_
    refine am_bipush (v := 20) dX5_stretchOf_34 (by decide) ?_
    refine am_iadd dX5_stretchOf_36 ?_
    rw [show (fX5_stretchOf p z1) = ((fX6_at 6 (p.2 1) (fX6_at 14 (p.2 8) z1)) + 20) from Eq.trans (if_pos c10) (rfl)]
    exact am_ireturn dX5_stretchOf_37 rfl rfl ⟨rfl, rfl⟩

theorem dX5_reachOf_0 : decode cX5_reachOf 0 = .ok (.aload_n 0, 1) := by decide +kernel
theorem dX5_reachOf_1 : decode cX5_reachOf 1 = .ok (.getfield 28, 3) := by decide +kernel
theorem dX5_reachOf_4 : decode cX5_reachOf 4 = .ok (.iload_n 1, 1) := by decide +kernel
theorem dX5_reachOf_5 : decode cX5_reachOf 5 = .ok (.invokestatic 79, 3) := by decide +kernel
theorem dX5_reachOf_8 : decode cX5_reachOf 8 = .ok (.bipush 100, 2) := by decide +kernel
theorem dX5_reachOf_10 : decode cX5_reachOf 10 = .ok (.aload_n 0, 1) := by decide +kernel
theorem dX5_reachOf_11 : decode cX5_reachOf 11 = .ok (.iload_n 1, 1) := by decide +kernel
theorem dX5_reachOf_12 : decode cX5_reachOf 12 = .ok (.invokevirtual 92, 3) := by decide +kernel
theorem dX5_reachOf_15 : decode cX5_reachOf 15 = .ok (.iadd, 1) := by decide +kernel
theorem dX5_reachOf_16 : decode cX5_reachOf 16 = .ok (.imul, 1) := by decide +kernel
theorem dX5_reachOf_17 : decode cX5_reachOf 17 = .ok (.bipush 100, 2) := by decide +kernel
theorem dX5_reachOf_19 : decode cX5_reachOf 19 = .ok (.idiv, 1) := by decide +kernel
theorem dX5_reachOf_20 : decode cX5_reachOf 20 = .ok (.ireturn, 1) := by decide +kernel
def fX5_reachOf (p : Pl) (z1 : Int32) : Int32 := (((fX6_at 14 (p.2 11) z1) * (100 + (fX5_stretchOf p z1))) / 100)
set_option maxRecDepth 20000 in
theorem ctX5_reachOf {l : Launch} {G : GM} {h : List va_E} {b : Nat} {p : Pl} (hp : PlantAt G h b p) (z1 : Int32) : Ct l G mX5_reachOf 2 0 0 [.ref (gz G + b), .int z1] h (fun v h1 => v = some (.int (fX5_reachOf p z1)) ∧ h1 = h) := by
  show Tr l G mX5_reachOf 2 0 0 0 [(0, .ref (gz G + b)), (1, .int z1)] [] h _
  refine am_aload_n dX5_reachOf_0 0 rfl ?_
  refine am_get dX5_reachOf_1 kGX5_28 (pl_0 hp) rfl ?_
  refine am_iload_n dX5_reachOf_4 1 rfl ?_
  refine am_callSN (As := [.ref (gz G + (b + 13)), .int z1]) (rest := []) dX5_reachOf_5 kMX5_79 rfl  rfl (Nat.le_of_ble_eq_true rfl) (d2 := 0) (by decide) (k2 := 0) (Nat.zero_le _) (u2 := 0) (Nat.zero_le _) (Nat.le_of_ble_eq_true rfl) (ctX6_at (pl_r11 hp) (by decide) z1) (fun v1 h2 q3 => ?_)
  obtain ⟨rfl, rfl⟩ := q3
  refine am_bipush (v := 100) dX5_reachOf_8 (by decide) ?_
  refine am_aload_n dX5_reachOf_10 0 rfl ?_
  refine am_iload_n dX5_reachOf_11 1 rfl ?_
  refine am_callV (As := [.int z1]) (rest := [.int 100, .int (fX6_at 14 (p.2 11) z1)]) dX5_reachOf_12 kMX5_92 rfl (pl_0 hp) rfl rfl (Nat.le_of_ble_eq_true rfl) (d2 := 1) (by decide) (k2 := 0) (Nat.zero_le _) (u2 := 0) (Nat.zero_le _) (Nat.le_of_ble_eq_true rfl) (ctX5_stretchOf hp z1 ) (fun v4 h5 q6 => ?_)
  obtain ⟨rfl, rfl⟩ := q6
  refine am_iadd dX5_reachOf_15 ?_
  refine am_imul dX5_reachOf_16 ?_
  refine am_bipush (v := 100) dX5_reachOf_17 (by decide) ?_
  refine am_idiv dX5_reachOf_19 (by decide) ?_
  rw [show (fX5_reachOf p z1) = (((fX6_at 14 (p.2 11) z1) * (100 + (fX5_stretchOf p z1))) / 100) from rfl]
  exact am_ireturn dX5_reachOf_20 rfl rfl ⟨rfl, rfl⟩

theorem dX5_lengthOn_0 : decode cX5_lengthOn 0 = .ok (.aload_n 0, 1) := by decide +kernel
theorem dX5_lengthOn_1 : decode cX5_lengthOn 1 = .ok (.getfield 12, 3) := by decide +kernel
theorem dX5_lengthOn_4 : decode cX5_lengthOn 4 = .ok (.getfield 96, 3) := by decide +kernel
theorem dX5_lengthOn_7 : decode cX5_lengthOn 7 = .ok (.iload_n 2, 1) := by decide +kernel
theorem dX5_lengthOn_8 : decode cX5_lengthOn 8 = .ok (.invokestatic 79, 3) := by decide +kernel
theorem dX5_lengthOn_11 : decode cX5_lengthOn 11 = .ok (.istore_n 3, 1) := by decide +kernel
theorem dX5_lengthOn_12 : decode cX5_lengthOn 12 = .ok (.aload_n 0, 1) := by decide +kernel
theorem dX5_lengthOn_13 : decode cX5_lengthOn 13 = .ok (.getfield 28, 3) := by decide +kernel
theorem dX5_lengthOn_16 : decode cX5_lengthOn 16 = .ok (.iload_n 1, 1) := by decide +kernel
theorem dX5_lengthOn_17 : decode cX5_lengthOn 17 = .ok (.invokestatic 79, 3) := by decide +kernel
theorem dX5_lengthOn_20 : decode cX5_lengthOn 20 = .ok (.istore 4, 2) := by decide +kernel
theorem dX5_lengthOn_22 : decode cX5_lengthOn 22 = .ok (.iload_n 3, 1) := by decide +kernel
theorem dX5_lengthOn_23 : decode cX5_lengthOn 23 = .ok (.aload_n 0, 1) := by decide +kernel
theorem dX5_lengthOn_24 : decode cX5_lengthOn 24 = .ok (.iload_n 1, 1) := by decide +kernel
theorem dX5_lengthOn_25 : decode cX5_lengthOn 25 = .ok (.invokevirtual 99, 3) := by decide +kernel
theorem dX5_lengthOn_28 : decode cX5_lengthOn 28 = .ok (.if_icmp .le 5, 3) := by decide +kernel
theorem dX5_lengthOn_31 : decode cX5_lengthOn 31 = .ok (.iconst (-1), 1) := by decide +kernel
theorem dX5_lengthOn_32 : decode cX5_lengthOn 32 = .ok (.ireturn, 1) := by decide +kernel
theorem dX5_lengthOn_33 : decode cX5_lengthOn 33 = .ok (.iload 4, 2) := by decide +kernel
theorem dX5_lengthOn_35 : decode cX5_lengthOn 35 = .ok (.iload_n 3, 1) := by decide +kernel
theorem dX5_lengthOn_36 : decode cX5_lengthOn 36 = .ok (.iload 4, 2) := by decide +kernel
theorem dX5_lengthOn_38 : decode cX5_lengthOn 38 = .ok (.isub, 1) := by decide +kernel
theorem dX5_lengthOn_39 : decode cX5_lengthOn 39 = .ok (.aload_n 0, 1) := by decide +kernel
theorem dX5_lengthOn_40 : decode cX5_lengthOn 40 = .ok (.getfield 55, 3) := by decide +kernel
theorem dX5_lengthOn_43 : decode cX5_lengthOn 43 = .ok (.imul, 1) := by decide +kernel
theorem dX5_lengthOn_44 : decode cX5_lengthOn 44 = .ok (.bipush 100, 2) := by decide +kernel
theorem dX5_lengthOn_46 : decode cX5_lengthOn 46 = .ok (.idiv, 1) := by decide +kernel
theorem dX5_lengthOn_47 : decode cX5_lengthOn 47 = .ok (.iadd, 1) := by decide +kernel
theorem dX5_lengthOn_48 : decode cX5_lengthOn 48 = .ok (.ireturn, 1) := by decide +kernel
def fX5_lengthOn (p : Pl) (z1 : Int32) (z2 : Int32) : Int32 := (if (fX6_at 8 (p.2 4) z2) ≤ (fX5_reachOf p z1) then ((fX6_at 14 (p.2 11) z1) + ((((fX6_at 8 (p.2 4) z2) - (fX6_at 14 (p.2 11) z1)) * (p.1 5)) / 100)) else (-1))
set_option maxRecDepth 20000 in
theorem ctX5_lengthOn {l : Launch} {G : GM} {h : List va_E} {b : Nat} {p : Pl} (hp : PlantAt G h b p) (z1 : Int32) (z2 : Int32) : Ct l G mX5_lengthOn 3 0 0 [.ref (gz G + b), .int z1, .int z2] h (fun v h1 => v = some (.int (fX5_lengthOn p z1 z2)) ∧ h1 = h) := by
  show Tr l G mX5_lengthOn 3 0 0 0 [(0, .ref (gz G + b)), (1, .int z1), (2, .int z2)] [] h _
  refine am_aload_n dX5_lengthOn_0 0 rfl ?_
  refine am_get dX5_lengthOn_1 kGX5_12 (pl_0 hp) rfl ?_
  refine am_get dX5_lengthOn_4 kGX5_96 (pl_1 hp) rfl ?_
  refine am_iload_n dX5_lengthOn_7 2 rfl ?_
  refine am_callSN (As := [.ref (gz G + (b + 6)), .int z2]) (rest := []) dX5_lengthOn_8 kMX5_79 rfl  rfl (Nat.le_of_ble_eq_true rfl) (d2 := 0) (by decide) (k2 := 0) (Nat.zero_le _) (u2 := 0) (Nat.zero_le _) (Nat.le_of_ble_eq_true rfl) (ctX6_at (pl_r4 hp) (by decide) z2) (fun v1 h2 q3 => ?_)
  obtain ⟨rfl, rfl⟩ := q3
  refine am_istore_n dX5_lengthOn_11 (by decide) (lv' := [(3, .int (fX6_at 8 (p.2 4) z2)), (0, .ref (gz G + b)), (1, .int z1), (2, .int z2)]) rfl ?_
  refine am_aload_n dX5_lengthOn_12 1 rfl ?_
  refine am_get dX5_lengthOn_13 kGX5_28 (pl_0 hp) rfl ?_
  refine am_iload_n dX5_lengthOn_16 2 rfl ?_
  refine am_callSN (As := [.ref (gz G + (b + 13)), .int z1]) (rest := []) dX5_lengthOn_17 kMX5_79 rfl  rfl (Nat.le_of_ble_eq_true rfl) (d2 := 0) (by decide) (k2 := 0) (Nat.zero_le _) (u2 := 0) (Nat.zero_le _) (Nat.le_of_ble_eq_true rfl) (ctX6_at (pl_r11 hp) (by decide) z1) (fun v4 h5 q6 => ?_)
  obtain ⟨rfl, rfl⟩ := q6
  refine am_istore dX5_lengthOn_20 (by decide) (lv' := [(4, .int (fX6_at 14 (p.2 11) z1)), (3, .int (fX6_at 8 (p.2 4) z2)), (0, .ref (gz G + b)), (1, .int z1), (2, .int z2)]) rfl ?_
  refine am_iload_n dX5_lengthOn_22 1 rfl ?_
  refine am_aload_n dX5_lengthOn_23 2 rfl ?_
  refine am_iload_n dX5_lengthOn_24 3 rfl ?_
  refine am_callV (As := [.int z1]) (rest := [.int (fX6_at 8 (p.2 4) z2)]) dX5_lengthOn_25 kMX5_99 rfl (pl_0 hp) rfl rfl (Nat.le_of_ble_eq_true rfl) (d2 := 2) (by decide) (k2 := 0) (Nat.zero_le _) (u2 := 0) (Nat.zero_le _) (Nat.le_of_ble_eq_true rfl) (ctX5_reachOf hp z1 ) (fun v7 h8 q9 => ?_)
  obtain ⟨rfl, rfl⟩ := q9
  refine am_icmp_le dX5_lengthOn_28 (by decide : ((28 : Nat) : Int) + (5) = ((33 : Nat) : Int)) (fun c10 => ?_) (fun c10 => ?_)
  · refine am_iload dX5_lengthOn_33 0 rfl ?_
    refine am_iload_n dX5_lengthOn_35 1 rfl ?_
    refine am_iload dX5_lengthOn_36 0 rfl ?_
    refine am_isub dX5_lengthOn_38 ?_
    refine am_aload_n dX5_lengthOn_39 2 rfl ?_
    refine am_get dX5_lengthOn_40 kGX5_55 (pl_0 hp) rfl ?_
    refine am_imul dX5_lengthOn_43 ?_
    refine am_bipush (v := 100) dX5_lengthOn_44 (by decide) ?_
    refine am_idiv dX5_lengthOn_46 (by decide) ?_
    refine am_iadd dX5_lengthOn_47 ?_
    rw [show (fX5_lengthOn p z1 z2) = ((fX6_at 14 (p.2 11) z1) + ((((fX6_at 8 (p.2 4) z2) - (fX6_at 14 (p.2 11) z1)) * (p.1 5)) / 100)) from Eq.trans (if_pos c10) (rfl)]
    exact am_ireturn dX5_lengthOn_48 rfl rfl ⟨rfl, rfl⟩
  · refine am_iconst (v := (-1)) dX5_lengthOn_31 (by decide) ?_
    rw [show (fX5_lengthOn p z1 z2) = (-1) from Eq.trans (if_neg c10) (rfl)]
    exact am_ireturn dX5_lengthOn_32 rfl rfl ⟨rfl, rfl⟩

def fX5_sizeOfPiece (p : Pl) (z1 : Int32) : Int32 := (fX0_sizeHolding p (fX6_at 14 (p.2 11) z1) (fX6_at 14 (p.2 11) z1))
theorem dX5_fits_0 : decode cX5_fits 0 = .ok (.iload_n 1, 1) := by decide +kernel
theorem dX5_fits_1 : decode cX5_fits 1 = .ok (.iload_n 2, 1) := by decide +kernel
theorem dX5_fits_2 : decode cX5_fits 2 = .ok (.if_icmp .eq 123, 3) := by decide +kernel
theorem dX5_fits_5 : decode cX5_fits 5 = .ok (.aload_n 0, 1) := by decide +kernel
theorem dX5_fits_6 : decode cX5_fits 6 = .ok (.getfield 34, 3) := by decide +kernel
theorem dX5_fits_9 : decode cX5_fits 9 = .ok (.iload_n 1, 1) := by decide +kernel
theorem dX5_fits_10 : decode cX5_fits 10 = .ok (.invokestatic 79, 3) := by decide +kernel
theorem dX5_fits_13 : decode cX5_fits 13 = .ok (.iconst 1, 1) := by decide +kernel
theorem dX5_fits_14 : decode cX5_fits 14 = .ok (.if_icmp .ne 111, 3) := by decide +kernel
theorem dX5_fits_17 : decode cX5_fits 17 = .ok (.aload_n 0, 1) := by decide +kernel
theorem dX5_fits_18 : decode cX5_fits 18 = .ok (.getfield 34, 3) := by decide +kernel
theorem dX5_fits_21 : decode cX5_fits 21 = .ok (.iload_n 2, 1) := by decide +kernel
theorem dX5_fits_22 : decode cX5_fits 22 = .ok (.invokestatic 79, 3) := by decide +kernel
theorem dX5_fits_25 : decode cX5_fits 25 = .ok (.iconst 1, 1) := by decide +kernel
theorem dX5_fits_26 : decode cX5_fits 26 = .ok (.if_icmp .ne 99, 3) := by decide +kernel
theorem dX5_fits_29 : decode cX5_fits 29 = .ok (.aload_n 0, 1) := by decide +kernel
theorem dX5_fits_30 : decode cX5_fits 30 = .ok (.getfield 18, 3) := by decide +kernel
theorem dX5_fits_33 : decode cX5_fits 33 = .ok (.iload_n 1, 1) := by decide +kernel
theorem dX5_fits_34 : decode cX5_fits 34 = .ok (.invokestatic 79, 3) := by decide +kernel
theorem dX5_fits_37 : decode cX5_fits 37 = .ok (.aload_n 0, 1) := by decide +kernel
theorem dX5_fits_38 : decode cX5_fits 38 = .ok (.getfield 18, 3) := by decide +kernel
theorem dX5_fits_41 : decode cX5_fits 41 = .ok (.iload_n 2, 1) := by decide +kernel
theorem dX5_fits_42 : decode cX5_fits 42 = .ok (.invokestatic 79, 3) := by decide +kernel
theorem dX5_fits_45 : decode cX5_fits 45 = .ok (.if_icmp .ne 80, 3) := by decide +kernel
theorem dX5_fits_48 : decode cX5_fits 48 = .ok (.aload_n 0, 1) := by decide +kernel
theorem dX5_fits_49 : decode cX5_fits 49 = .ok (.getfield 22, 3) := by decide +kernel
theorem dX5_fits_52 : decode cX5_fits 52 = .ok (.iload_n 1, 1) := by decide +kernel
theorem dX5_fits_53 : decode cX5_fits 53 = .ok (.invokestatic 79, 3) := by decide +kernel
theorem dX5_fits_56 : decode cX5_fits 56 = .ok (.aload_n 0, 1) := by decide +kernel
theorem dX5_fits_57 : decode cX5_fits 57 = .ok (.getfield 22, 3) := by decide +kernel
theorem dX5_fits_60 : decode cX5_fits 60 = .ok (.iload_n 2, 1) := by decide +kernel
theorem dX5_fits_61 : decode cX5_fits 61 = .ok (.invokestatic 79, 3) := by decide +kernel
theorem dX5_fits_64 : decode cX5_fits 64 = .ok (.if_icmp .ne 61, 3) := by decide +kernel
theorem dX5_fits_67 : decode cX5_fits 67 = .ok (.aload_n 0, 1) := by decide +kernel
theorem dX5_fits_68 : decode cX5_fits 68 = .ok (.getfield 28, 3) := by decide +kernel
theorem dX5_fits_71 : decode cX5_fits 71 = .ok (.iload_n 1, 1) := by decide +kernel
theorem dX5_fits_72 : decode cX5_fits 72 = .ok (.invokestatic 79, 3) := by decide +kernel
theorem dX5_fits_75 : decode cX5_fits 75 = .ok (.aload_n 0, 1) := by decide +kernel
theorem dX5_fits_76 : decode cX5_fits 76 = .ok (.getfield 28, 3) := by decide +kernel
theorem dX5_fits_79 : decode cX5_fits 79 = .ok (.iload_n 2, 1) := by decide +kernel
theorem dX5_fits_80 : decode cX5_fits 80 = .ok (.invokestatic 79, 3) := by decide +kernel
theorem dX5_fits_83 : decode cX5_fits 83 = .ok (.isub, 1) := by decide +kernel
theorem dX5_fits_84 : decode cX5_fits 84 = .ok (.invokestatic 119, 3) := by decide +kernel
theorem dX5_fits_87 : decode cX5_fits 87 = .ok (.aload_n 0, 1) := by decide +kernel
theorem dX5_fits_88 : decode cX5_fits 88 = .ok (.getfield 49, 3) := by decide +kernel
theorem dX5_fits_91 : decode cX5_fits 91 = .ok (.if_icmp .gt 34, 3) := by decide +kernel
theorem dX5_fits_94 : decode cX5_fits 94 = .ok (.aload_n 0, 1) := by decide +kernel
theorem dX5_fits_95 : decode cX5_fits 95 = .ok (.getfield 31, 3) := by decide +kernel
theorem dX5_fits_98 : decode cX5_fits 98 = .ok (.iload_n 1, 1) := by decide +kernel
theorem dX5_fits_99 : decode cX5_fits 99 = .ok (.invokestatic 79, 3) := by decide +kernel
theorem dX5_fits_102 : decode cX5_fits 102 = .ok (.aload_n 0, 1) := by decide +kernel
theorem dX5_fits_103 : decode cX5_fits 103 = .ok (.getfield 31, 3) := by decide +kernel
theorem dX5_fits_106 : decode cX5_fits 106 = .ok (.iload_n 2, 1) := by decide +kernel
theorem dX5_fits_107 : decode cX5_fits 107 = .ok (.invokestatic 79, 3) := by decide +kernel
theorem dX5_fits_110 : decode cX5_fits 110 = .ok (.isub, 1) := by decide +kernel
theorem dX5_fits_111 : decode cX5_fits 111 = .ok (.invokestatic 119, 3) := by decide +kernel
theorem dX5_fits_114 : decode cX5_fits 114 = .ok (.aload_n 0, 1) := by decide +kernel
theorem dX5_fits_115 : decode cX5_fits 115 = .ok (.getfield 52, 3) := by decide +kernel
theorem dX5_fits_118 : decode cX5_fits 118 = .ok (.if_icmp .gt 7, 3) := by decide +kernel
theorem dX5_fits_121 : decode cX5_fits 121 = .ok (.iconst 1, 1) := by decide +kernel
theorem dX5_fits_122 : decode cX5_fits 122 = .ok (.goto 4, 3) := by decide +kernel
theorem dX5_fits_125 : decode cX5_fits 125 = .ok (.iconst 0, 1) := by decide +kernel
theorem dX5_fits_126 : decode cX5_fits 126 = .ok (.ireturn, 1) := by decide +kernel
def fX5_fits (p : Pl) (z1 : Int32) (z2 : Int32) : Int32 := (if z1 = z2 then 0 else (if (fX6_at 14 (p.2 13) z1) = 1 then (if (fX6_at 14 (p.2 13) z2) = 1 then (if (fX6_at 14 (p.2 8) z1) = (fX6_at 14 (p.2 8) z2) then (if (fX6_at 14 (p.2 9) z1) = (fX6_at 14 (p.2 9) z2) then (if (p.1 3) < (iab ((fX6_at 14 (p.2 11) z1) - (fX6_at 14 (p.2 11) z2))) then 0 else (if (p.1 4) < (iab ((fX6_at 14 (p.2 12) z1) - (fX6_at 14 (p.2 12) z2))) then 0 else 1)) else 0) else 0) else 0) else 0))
set_option maxRecDepth 20000 in
theorem ctX5_fits {l : Launch} {G : GM} {h : List va_E} {b : Nat} {p : Pl} (hp : PlantAt G h b p) (z1 : Int32) (z2 : Int32) : Ct l G mX5_fits 1 0 0 [.ref (gz G + b), .int z1, .int z2] h (fun v h1 => v = some (.int (fX5_fits p z1 z2)) ∧ h1 = h) := by
  show Tr l G mX5_fits 1 0 0 0 [(0, .ref (gz G + b)), (1, .int z1), (2, .int z2)] [] h _
  refine am_iload_n dX5_fits_0 1 rfl ?_
  refine am_iload_n dX5_fits_1 2 rfl ?_
  refine am_icmp_eq dX5_fits_2 (by decide : ((2 : Nat) : Int) + (123) = ((125 : Nat) : Int)) (fun c1 => ?_) (fun c1 => ?_)
  · refine am_iconst (v := 0) dX5_fits_125 (by decide) ?_
    rw [show (fX5_fits p z1 z2) = 0 from Eq.trans (if_pos c1) (rfl)]
    exact am_ireturn dX5_fits_126 rfl rfl ⟨rfl, rfl⟩
  · refine am_aload_n dX5_fits_5 0 rfl ?_
    refine am_get dX5_fits_6 kGX5_34 (pl_0 hp) rfl ?_
    refine am_iload_n dX5_fits_9 1 rfl ?_
    refine am_callSN (As := [.ref (gz G + (b + 15)), .int z1]) (rest := []) dX5_fits_10 kMX5_79 rfl  rfl (Nat.le_of_ble_eq_true rfl) (d2 := 0) (by decide) (k2 := 0) (Nat.zero_le _) (u2 := 0) (Nat.zero_le _) (Nat.le_of_ble_eq_true rfl) (ctX6_at (pl_r13 hp) (by decide) z1) (fun v2 h3 q4 => ?_)
    obtain ⟨rfl, rfl⟩ := q4
    refine am_iconst (v := 1) dX5_fits_13 (by decide) ?_
    refine am_icmp_ne dX5_fits_14 (by decide : ((14 : Nat) : Int) + (111) = ((125 : Nat) : Int)) (fun c5 => ?_) (fun c5 => ?_)
    · refine am_iconst (v := 0) dX5_fits_125 (by decide) ?_
      rw [show (fX5_fits p z1 z2) = 0 from Eq.trans (if_neg c1) (Eq.trans (if_neg c5) (rfl))]
      exact am_ireturn dX5_fits_126 rfl rfl ⟨rfl, rfl⟩
    · refine am_aload_n dX5_fits_17 0 rfl ?_
      refine am_get dX5_fits_18 kGX5_34 (pl_0 hp) rfl ?_
      refine am_iload_n dX5_fits_21 2 rfl ?_
      refine am_callSN (As := [.ref (gz G + (b + 15)), .int z2]) (rest := []) dX5_fits_22 kMX5_79 rfl  rfl (Nat.le_of_ble_eq_true rfl) (d2 := 0) (by decide) (k2 := 0) (Nat.zero_le _) (u2 := 0) (Nat.zero_le _) (Nat.le_of_ble_eq_true rfl) (ctX6_at (pl_r13 hp) (by decide) z2) (fun v6 h7 q8 => ?_)
      obtain ⟨rfl, rfl⟩ := q8
      refine am_iconst (v := 1) dX5_fits_25 (by decide) ?_
      refine am_icmp_ne dX5_fits_26 (by decide : ((26 : Nat) : Int) + (99) = ((125 : Nat) : Int)) (fun c9 => ?_) (fun c9 => ?_)
      · refine am_iconst (v := 0) dX5_fits_125 (by decide) ?_
        rw [show (fX5_fits p z1 z2) = 0 from Eq.trans (if_neg c1) (Eq.trans (if_pos c5) (Eq.trans (if_neg c9) (rfl)))]
        exact am_ireturn dX5_fits_126 rfl rfl ⟨rfl, rfl⟩
      · refine am_aload_n dX5_fits_29 0 rfl ?_
        refine am_get dX5_fits_30 kGX5_18 (pl_0 hp) rfl ?_
        refine am_iload_n dX5_fits_33 1 rfl ?_
        refine am_callSN (As := [.ref (gz G + (b + 10)), .int z1]) (rest := []) dX5_fits_34 kMX5_79 rfl  rfl (Nat.le_of_ble_eq_true rfl) (d2 := 0) (by decide) (k2 := 0) (Nat.zero_le _) (u2 := 0) (Nat.zero_le _) (Nat.le_of_ble_eq_true rfl) (ctX6_at (pl_r8 hp) (by decide) z1) (fun v10 h11 q12 => ?_)
        obtain ⟨rfl, rfl⟩ := q12
        refine am_aload_n dX5_fits_37 0 rfl ?_
        refine am_get dX5_fits_38 kGX5_18 (pl_0 hp) rfl ?_
        refine am_iload_n dX5_fits_41 2 rfl ?_
        refine am_callSN (As := [.ref (gz G + (b + 10)), .int z2]) (rest := [.int (fX6_at 14 (p.2 8) z1)]) dX5_fits_42 kMX5_79 rfl  rfl (Nat.le_of_ble_eq_true rfl) (d2 := 0) (by decide) (k2 := 0) (Nat.zero_le _) (u2 := 0) (Nat.zero_le _) (Nat.le_of_ble_eq_true rfl) (ctX6_at (pl_r8 hp) (by decide) z2) (fun v13 h14 q15 => ?_)
        obtain ⟨rfl, rfl⟩ := q15
        refine am_icmp_ne dX5_fits_45 (by decide : ((45 : Nat) : Int) + (80) = ((125 : Nat) : Int)) (fun c16 => ?_) (fun c16 => ?_)
        · refine am_iconst (v := 0) dX5_fits_125 (by decide) ?_
          rw [show (fX5_fits p z1 z2) = 0 from Eq.trans (if_neg c1) (Eq.trans (if_pos c5) (Eq.trans (if_pos c9) (Eq.trans (if_neg c16) (rfl))))]
          exact am_ireturn dX5_fits_126 rfl rfl ⟨rfl, rfl⟩
        · refine am_aload_n dX5_fits_48 0 rfl ?_
          refine am_get dX5_fits_49 kGX5_22 (pl_0 hp) rfl ?_
          refine am_iload_n dX5_fits_52 1 rfl ?_
          refine am_callSN (As := [.ref (gz G + (b + 11)), .int z1]) (rest := []) dX5_fits_53 kMX5_79 rfl  rfl (Nat.le_of_ble_eq_true rfl) (d2 := 0) (by decide) (k2 := 0) (Nat.zero_le _) (u2 := 0) (Nat.zero_le _) (Nat.le_of_ble_eq_true rfl) (ctX6_at (pl_r9 hp) (by decide) z1) (fun v17 h18 q19 => ?_)
          obtain ⟨rfl, rfl⟩ := q19
          refine am_aload_n dX5_fits_56 0 rfl ?_
          refine am_get dX5_fits_57 kGX5_22 (pl_0 hp) rfl ?_
          refine am_iload_n dX5_fits_60 2 rfl ?_
          refine am_callSN (As := [.ref (gz G + (b + 11)), .int z2]) (rest := [.int (fX6_at 14 (p.2 9) z1)]) dX5_fits_61 kMX5_79 rfl  rfl (Nat.le_of_ble_eq_true rfl) (d2 := 0) (by decide) (k2 := 0) (Nat.zero_le _) (u2 := 0) (Nat.zero_le _) (Nat.le_of_ble_eq_true rfl) (ctX6_at (pl_r9 hp) (by decide) z2) (fun v20 h21 q22 => ?_)
          obtain ⟨rfl, rfl⟩ := q22
          refine am_icmp_ne dX5_fits_64 (by decide : ((64 : Nat) : Int) + (61) = ((125 : Nat) : Int)) (fun c23 => ?_) (fun c23 => ?_)
          · refine am_iconst (v := 0) dX5_fits_125 (by decide) ?_
            rw [show (fX5_fits p z1 z2) = 0 from Eq.trans (if_neg c1) (Eq.trans (if_pos c5) (Eq.trans (if_pos c9) (Eq.trans (if_pos c16) (Eq.trans (if_neg c23) (rfl)))))]
            exact am_ireturn dX5_fits_126 rfl rfl ⟨rfl, rfl⟩
          · refine am_aload_n dX5_fits_67 0 rfl ?_
            refine am_get dX5_fits_68 kGX5_28 (pl_0 hp) rfl ?_
            refine am_iload_n dX5_fits_71 1 rfl ?_
            refine am_callSN (As := [.ref (gz G + (b + 13)), .int z1]) (rest := []) dX5_fits_72 kMX5_79 rfl  rfl (Nat.le_of_ble_eq_true rfl) (d2 := 0) (by decide) (k2 := 0) (Nat.zero_le _) (u2 := 0) (Nat.zero_le _) (Nat.le_of_ble_eq_true rfl) (ctX6_at (pl_r11 hp) (by decide) z1) (fun v24 h25 q26 => ?_)
            obtain ⟨rfl, rfl⟩ := q26
            refine am_aload_n dX5_fits_75 0 rfl ?_
            refine am_get dX5_fits_76 kGX5_28 (pl_0 hp) rfl ?_
            refine am_iload_n dX5_fits_79 2 rfl ?_
            refine am_callSN (As := [.ref (gz G + (b + 13)), .int z2]) (rest := [.int (fX6_at 14 (p.2 11) z1)]) dX5_fits_80 kMX5_79 rfl  rfl (Nat.le_of_ble_eq_true rfl) (d2 := 0) (by decide) (k2 := 0) (Nat.zero_le _) (u2 := 0) (Nat.zero_le _) (Nat.le_of_ble_eq_true rfl) (ctX6_at (pl_r11 hp) (by decide) z2) (fun v27 h28 q29 => ?_)
            obtain ⟨rfl, rfl⟩ := q29
            refine am_isub dX5_fits_83 ?_
            refine am_mabs dX5_fits_84 kXX5_119 (Nat.le_of_ble_eq_true rfl) (by decide) ?_
            refine am_aload_n dX5_fits_87 0 rfl ?_
            refine am_get dX5_fits_88 kGX5_49 (pl_0 hp) rfl ?_
            refine am_icmp_gt dX5_fits_91 (by decide : ((91 : Nat) : Int) + (34) = ((125 : Nat) : Int)) (fun c30 => ?_) (fun c30 => ?_)
            · refine am_iconst (v := 0) dX5_fits_125 (by decide) ?_
              rw [show (fX5_fits p z1 z2) = 0 from Eq.trans (if_neg c1) (Eq.trans (if_pos c5) (Eq.trans (if_pos c9) (Eq.trans (if_pos c16) (Eq.trans (if_pos c23) (Eq.trans (if_pos c30) (rfl))))))]
              exact am_ireturn dX5_fits_126 rfl rfl ⟨rfl, rfl⟩
            · refine am_aload_n dX5_fits_94 0 rfl ?_
              refine am_get dX5_fits_95 kGX5_31 (pl_0 hp) rfl ?_
              refine am_iload_n dX5_fits_98 1 rfl ?_
              refine am_callSN (As := [.ref (gz G + (b + 14)), .int z1]) (rest := []) dX5_fits_99 kMX5_79 rfl  rfl (Nat.le_of_ble_eq_true rfl) (d2 := 0) (by decide) (k2 := 0) (Nat.zero_le _) (u2 := 0) (Nat.zero_le _) (Nat.le_of_ble_eq_true rfl) (ctX6_at (pl_r12 hp) (by decide) z1) (fun v31 h32 q33 => ?_)
              obtain ⟨rfl, rfl⟩ := q33
              refine am_aload_n dX5_fits_102 0 rfl ?_
              refine am_get dX5_fits_103 kGX5_31 (pl_0 hp) rfl ?_
              refine am_iload_n dX5_fits_106 2 rfl ?_
              refine am_callSN (As := [.ref (gz G + (b + 14)), .int z2]) (rest := [.int (fX6_at 14 (p.2 12) z1)]) dX5_fits_107 kMX5_79 rfl  rfl (Nat.le_of_ble_eq_true rfl) (d2 := 0) (by decide) (k2 := 0) (Nat.zero_le _) (u2 := 0) (Nat.zero_le _) (Nat.le_of_ble_eq_true rfl) (ctX6_at (pl_r12 hp) (by decide) z2) (fun v34 h35 q36 => ?_)
              obtain ⟨rfl, rfl⟩ := q36
              refine am_isub dX5_fits_110 ?_
              refine am_mabs dX5_fits_111 kXX5_119 (Nat.le_of_ble_eq_true rfl) (by decide) ?_
              refine am_aload_n dX5_fits_114 0 rfl ?_
              refine am_get dX5_fits_115 kGX5_52 (pl_0 hp) rfl ?_
              refine am_icmp_gt dX5_fits_118 (by decide : ((118 : Nat) : Int) + (7) = ((125 : Nat) : Int)) (fun c37 => ?_) (fun c37 => ?_)
              · refine am_iconst (v := 0) dX5_fits_125 (by decide) ?_
                rw [show (fX5_fits p z1 z2) = 0 from Eq.trans (if_neg c1) (Eq.trans (if_pos c5) (Eq.trans (if_pos c9) (Eq.trans (if_pos c16) (Eq.trans (if_pos c23) (Eq.trans (if_neg c30) (Eq.trans (if_pos c37) (rfl)))))))]
                exact am_ireturn dX5_fits_126 rfl rfl ⟨rfl, rfl⟩
              · refine am_iconst (v := 1) dX5_fits_121 (by decide) ?_
                refine am_goto dX5_fits_122 (by decide : ((122 : Nat) : Int) + (4) = ((126 : Nat) : Int)) ?_
                rw [show (fX5_fits p z1 z2) = 1 from Eq.trans (if_neg c1) (Eq.trans (if_pos c5) (Eq.trans (if_pos c9) (Eq.trans (if_pos c16) (Eq.trans (if_pos c23) (Eq.trans (if_neg c30) (Eq.trans (if_neg c37) (rfl)))))))]
                exact am_ireturn dX5_fits_126 rfl rfl ⟨rfl, rfl⟩

theorem dX5_gapOf_0 : decode cX5_gapOf 0 = .ok (.aload_n 0, 1) := by decide +kernel
theorem dX5_gapOf_1 : decode cX5_gapOf 1 = .ok (.getfield 28, 3) := by decide +kernel
theorem dX5_gapOf_4 : decode cX5_gapOf 4 = .ok (.iload_n 1, 1) := by decide +kernel
theorem dX5_gapOf_5 : decode cX5_gapOf 5 = .ok (.invokestatic 79, 3) := by decide +kernel
theorem dX5_gapOf_8 : decode cX5_gapOf 8 = .ok (.aload_n 0, 1) := by decide +kernel
theorem dX5_gapOf_9 : decode cX5_gapOf 9 = .ok (.getfield 28, 3) := by decide +kernel
theorem dX5_gapOf_12 : decode cX5_gapOf 12 = .ok (.iload_n 2, 1) := by decide +kernel
theorem dX5_gapOf_13 : decode cX5_gapOf 13 = .ok (.invokestatic 79, 3) := by decide +kernel
theorem dX5_gapOf_16 : decode cX5_gapOf 16 = .ok (.isub, 1) := by decide +kernel
theorem dX5_gapOf_17 : decode cX5_gapOf 17 = .ok (.invokestatic 119, 3) := by decide +kernel
theorem dX5_gapOf_20 : decode cX5_gapOf 20 = .ok (.bipush 10, 2) := by decide +kernel
theorem dX5_gapOf_22 : decode cX5_gapOf 22 = .ok (.aload_n 0, 1) := by decide +kernel
theorem dX5_gapOf_23 : decode cX5_gapOf 23 = .ok (.getfield 31, 3) := by decide +kernel
theorem dX5_gapOf_26 : decode cX5_gapOf 26 = .ok (.iload_n 1, 1) := by decide +kernel
theorem dX5_gapOf_27 : decode cX5_gapOf 27 = .ok (.invokestatic 79, 3) := by decide +kernel
theorem dX5_gapOf_30 : decode cX5_gapOf 30 = .ok (.aload_n 0, 1) := by decide +kernel
theorem dX5_gapOf_31 : decode cX5_gapOf 31 = .ok (.getfield 31, 3) := by decide +kernel
theorem dX5_gapOf_34 : decode cX5_gapOf 34 = .ok (.iload_n 2, 1) := by decide +kernel
theorem dX5_gapOf_35 : decode cX5_gapOf 35 = .ok (.invokestatic 79, 3) := by decide +kernel
theorem dX5_gapOf_38 : decode cX5_gapOf 38 = .ok (.isub, 1) := by decide +kernel
theorem dX5_gapOf_39 : decode cX5_gapOf 39 = .ok (.invokestatic 119, 3) := by decide +kernel
theorem dX5_gapOf_42 : decode cX5_gapOf 42 = .ok (.imul, 1) := by decide +kernel
theorem dX5_gapOf_43 : decode cX5_gapOf 43 = .ok (.iadd, 1) := by decide +kernel
theorem dX5_gapOf_44 : decode cX5_gapOf 44 = .ok (.ireturn, 1) := by decide +kernel
def fX5_gapOf (p : Pl) (z1 : Int32) (z2 : Int32) : Int32 := ((iab ((fX6_at 14 (p.2 11) z1) - (fX6_at 14 (p.2 11) z2))) + (10 * (iab ((fX6_at 14 (p.2 12) z1) - (fX6_at 14 (p.2 12) z2)))))
set_option maxRecDepth 20000 in
theorem ctX5_gapOf {l : Launch} {G : GM} {h : List va_E} {b : Nat} {p : Pl} (hp : PlantAt G h b p) (z1 : Int32) (z2 : Int32) : Ct l G mX5_gapOf 1 0 0 [.ref (gz G + b), .int z1, .int z2] h (fun v h1 => v = some (.int (fX5_gapOf p z1 z2)) ∧ h1 = h) := by
  show Tr l G mX5_gapOf 1 0 0 0 [(0, .ref (gz G + b)), (1, .int z1), (2, .int z2)] [] h _
  refine am_aload_n dX5_gapOf_0 0 rfl ?_
  refine am_get dX5_gapOf_1 kGX5_28 (pl_0 hp) rfl ?_
  refine am_iload_n dX5_gapOf_4 1 rfl ?_
  refine am_callSN (As := [.ref (gz G + (b + 13)), .int z1]) (rest := []) dX5_gapOf_5 kMX5_79 rfl  rfl (Nat.le_of_ble_eq_true rfl) (d2 := 0) (by decide) (k2 := 0) (Nat.zero_le _) (u2 := 0) (Nat.zero_le _) (Nat.le_of_ble_eq_true rfl) (ctX6_at (pl_r11 hp) (by decide) z1) (fun v1 h2 q3 => ?_)
  obtain ⟨rfl, rfl⟩ := q3
  refine am_aload_n dX5_gapOf_8 0 rfl ?_
  refine am_get dX5_gapOf_9 kGX5_28 (pl_0 hp) rfl ?_
  refine am_iload_n dX5_gapOf_12 2 rfl ?_
  refine am_callSN (As := [.ref (gz G + (b + 13)), .int z2]) (rest := [.int (fX6_at 14 (p.2 11) z1)]) dX5_gapOf_13 kMX5_79 rfl  rfl (Nat.le_of_ble_eq_true rfl) (d2 := 0) (by decide) (k2 := 0) (Nat.zero_le _) (u2 := 0) (Nat.zero_le _) (Nat.le_of_ble_eq_true rfl) (ctX6_at (pl_r11 hp) (by decide) z2) (fun v4 h5 q6 => ?_)
  obtain ⟨rfl, rfl⟩ := q6
  refine am_isub dX5_gapOf_16 ?_
  refine am_mabs dX5_gapOf_17 kXX5_119 (Nat.le_of_ble_eq_true rfl) (by decide) ?_
  refine am_bipush (v := 10) dX5_gapOf_20 (by decide) ?_
  refine am_aload_n dX5_gapOf_22 0 rfl ?_
  refine am_get dX5_gapOf_23 kGX5_31 (pl_0 hp) rfl ?_
  refine am_iload_n dX5_gapOf_26 1 rfl ?_
  refine am_callSN (As := [.ref (gz G + (b + 14)), .int z1]) (rest := [.int 10, .int (iab ((fX6_at 14 (p.2 11) z1) - (fX6_at 14 (p.2 11) z2)))]) dX5_gapOf_27 kMX5_79 rfl  rfl (Nat.le_of_ble_eq_true rfl) (d2 := 0) (by decide) (k2 := 0) (Nat.zero_le _) (u2 := 0) (Nat.zero_le _) (Nat.le_of_ble_eq_true rfl) (ctX6_at (pl_r12 hp) (by decide) z1) (fun v7 h8 q9 => ?_)
  obtain ⟨rfl, rfl⟩ := q9
  refine am_aload_n dX5_gapOf_30 0 rfl ?_
  refine am_get dX5_gapOf_31 kGX5_31 (pl_0 hp) rfl ?_
  refine am_iload_n dX5_gapOf_34 2 rfl ?_
  refine am_callSN (As := [.ref (gz G + (b + 14)), .int z2]) (rest := [.int (fX6_at 14 (p.2 12) z1), .int 10, .int (iab ((fX6_at 14 (p.2 11) z1) - (fX6_at 14 (p.2 11) z2)))]) dX5_gapOf_35 kMX5_79 rfl  rfl (Nat.le_of_ble_eq_true rfl) (d2 := 0) (by decide) (k2 := 0) (Nat.zero_le _) (u2 := 0) (Nat.zero_le _) (Nat.le_of_ble_eq_true rfl) (ctX6_at (pl_r12 hp) (by decide) z2) (fun v10 h11 q12 => ?_)
  obtain ⟨rfl, rfl⟩ := q12
  refine am_isub dX5_gapOf_38 ?_
  refine am_mabs dX5_gapOf_39 kXX5_119 (Nat.le_of_ble_eq_true rfl) (by decide) ?_
  refine am_imul dX5_gapOf_42 ?_
  refine am_iadd dX5_gapOf_43 ?_
  rw [show (fX5_gapOf p z1 z2) = ((iab ((fX6_at 14 (p.2 11) z1) - (fX6_at 14 (p.2 11) z2))) + (10 * (iab ((fX6_at 14 (p.2 12) z1) - (fX6_at 14 (p.2 12) z2))))) from rfl]
  exact am_ireturn dX5_gapOf_44 rfl rfl ⟨rfl, rfl⟩

def fX5_rankOf_4 (p : Pl) (z1 : Int32) : Nat → Int32 → Int32 → Int32 × Int32
  | 0, x3, x2 => (x3, x2)
  | fu + 1, x3, x2 => (if (p.1 8) ≤ x3 then (x3, x2) else (if ((fX6_at 14 (p.2 11) x3) - (fX6_at 14 (p.2 11) z1)) = 0 then (if ((fX6_at 14 (p.2 12) x3) - (fX6_at 14 (p.2 12) z1)) = 0 then (if 0 ≤ (x3 - z1) then (fX5_rankOf_4 p z1 fu (x3 + 1) x2) else (fX5_rankOf_4 p z1 fu (x3 + 1) (x2 + 1))) else (if 0 ≤ ((fX6_at 14 (p.2 12) x3) - (fX6_at 14 (p.2 12) z1)) then (fX5_rankOf_4 p z1 fu (x3 + 1) x2) else (fX5_rankOf_4 p z1 fu (x3 + 1) (x2 + 1)))) else (if 0 ≤ ((fX6_at 14 (p.2 11) x3) - (fX6_at 14 (p.2 11) z1)) then (fX5_rankOf_4 p z1 fu (x3 + 1) x2) else (fX5_rankOf_4 p z1 fu (x3 + 1) (x2 + 1)))))
def fX5_rankOf (p : Pl) (z1 : Int32) : Int32 := (fX5_rankOf_4 p z1 (fuU (p.1 8) 0) 0 0).2
theorem dX5_matchSet_0 : decode cX5_matchSet 0 = .ok (.iconst 0, 1) := by decide +kernel
theorem dX5_matchSet_1 : decode cX5_matchSet 1 = .ok (.istore_n 2, 1) := by decide +kernel
theorem dX5_matchSet_2 : decode cX5_matchSet 2 = .ok (.iconst 0, 1) := by decide +kernel
theorem dX5_matchSet_3 : decode cX5_matchSet 3 = .ok (.istore_n 3, 1) := by decide +kernel
theorem dX5_matchSet_4 : decode cX5_matchSet 4 = .ok (.iload_n 3, 1) := by decide +kernel
theorem dX5_matchSet_5 : decode cX5_matchSet 5 = .ok (.aload_n 0, 1) := by decide +kernel
theorem dX5_matchSet_6 : decode cX5_matchSet 6 = .ok (.getfield 64, 3) := by decide +kernel
theorem dX5_matchSet_9 : decode cX5_matchSet 9 = .ok (.if_icmp .ge 24, 3) := by decide +kernel
theorem dX5_matchSet_12 : decode cX5_matchSet 12 = .ok (.aload_n 0, 1) := by decide +kernel
theorem dX5_matchSet_13 : decode cX5_matchSet 13 = .ok (.iload_n 1, 1) := by decide +kernel
theorem dX5_matchSet_14 : decode cX5_matchSet 14 = .ok (.iload_n 3, 1) := by decide +kernel
theorem dX5_matchSet_15 : decode cX5_matchSet 15 = .ok (.invokevirtual 122, 3) := by decide +kernel
theorem dX5_matchSet_18 : decode cX5_matchSet 18 = .ok (.ifCond .eq 9, 3) := by decide +kernel
theorem dX5_matchSet_21 : decode cX5_matchSet 21 = .ok (.iload_n 2, 1) := by decide +kernel
theorem dX5_matchSet_22 : decode cX5_matchSet 22 = .ok (.iconst 1, 1) := by decide +kernel
theorem dX5_matchSet_23 : decode cX5_matchSet 23 = .ok (.iload_n 3, 1) := by decide +kernel
theorem dX5_matchSet_24 : decode cX5_matchSet 24 = .ok (.ishl, 1) := by decide +kernel
theorem dX5_matchSet_25 : decode cX5_matchSet 25 = .ok (.ior, 1) := by decide +kernel
theorem dX5_matchSet_26 : decode cX5_matchSet 26 = .ok (.istore_n 2, 1) := by decide +kernel
theorem dX5_matchSet_27 : decode cX5_matchSet 27 = .ok (.iinc 3 1, 3) := by decide +kernel
theorem dX5_matchSet_30 : decode cX5_matchSet 30 = .ok (.goto (-26), 3) := by decide +kernel
theorem dX5_matchSet_33 : decode cX5_matchSet 33 = .ok (.iload_n 2, 1) := by decide +kernel
theorem dX5_matchSet_34 : decode cX5_matchSet 34 = .ok (.ireturn, 1) := by decide +kernel
def fX5_matchSet_4 (p : Pl) (z1 : Int32) : Nat → Int32 → Int32 → Int32 × Int32
  | 0, x3, x2 => (x3, x2)
  | fu + 1, x3, x2 => (if (p.1 8) ≤ x3 then (x3, x2) else (if (fX5_fits p z1 x3) = 0 then (fX5_matchSet_4 p z1 fu (x3 + 1) x2) else (fX5_matchSet_4 p z1 fu (x3 + 1) (x2 ||| (1 <<< (x3 &&& 31))))))
set_option maxRecDepth 20000 in
theorem wX5_matchSet_4 {l : Launch} {G : GM} {h : List va_E} {b : Nat} {p : Pl} (hp : PlantAt G h b p) (z1 : Int32) {Q : Option Value → List va_E → Prop} : ∀ (fu : Nat) (x3 x2 : Int32) (iv : ivU (p.1 8) x3 fu) (kx : Tr l G mX5_matchSet 2 0 0 33 [(3, .int ((fX5_matchSet_4 p z1 fu x3 x2).1)), (2, .int ((fX5_matchSet_4 p z1 fu x3 x2).2)), (0, .ref (gz G + b)), (1, .int z1)] [] h Q), Tr l G mX5_matchSet 2 0 0 4 [(3, .int x3), (2, .int x2), (0, .ref (gz G + b)), (1, .int z1)] [] h Q := by
  intro fu
  induction fu with
  | zero => intro x3 x2 iv; intros; exact absurd iv ivU_0
  | succ fu ih =>
    intro x3 x2 iv   kx
    refine am_iload_n dX5_matchSet_4 0 rfl ?_
    refine am_aload_n dX5_matchSet_5 2 rfl ?_
    refine am_get dX5_matchSet_6 kGX5_64 (pl_0 hp) rfl ?_
    refine am_icmp_ge dX5_matchSet_9 (by decide : ((9 : Nat) : Int) + (24) = ((33 : Nat) : Int)) (fun c1 => ?_) (fun c1 => ?_)
    · rw [show (fX5_matchSet_4 p z1 (fu + 1) x3 x2) = (x3, x2) from Eq.trans (if_pos c1) (rfl)] at kx
      exact kx
    · refine am_aload_n dX5_matchSet_12 2 rfl ?_
      refine am_iload_n dX5_matchSet_13 3 rfl ?_
      refine am_iload_n dX5_matchSet_14 0 rfl ?_
      refine am_callV (As := [.int z1, .int x3]) (rest := []) dX5_matchSet_15 kMX5_122 rfl (pl_0 hp) rfl rfl (Nat.le_of_ble_eq_true rfl) (d2 := 1) (by decide) (k2 := 0) (Nat.zero_le _) (u2 := 0) (Nat.zero_le _) (Nat.le_of_ble_eq_true rfl) (ctX5_fits hp z1 x3 ) (fun v2 h3 q4 => ?_)
      obtain ⟨rfl, rfl⟩ := q4
      refine am_if_eq dX5_matchSet_18 (by decide : ((18 : Nat) : Int) + (9) = ((27 : Nat) : Int)) (fun c5 => ?_) (fun c5 => ?_)
      · refine am_iinc (v := (x3 + 1)) dX5_matchSet_27 0 rfl rfl (by decide) (lv' := [(3, .int (x3 + 1)), (2, .int x2), (0, .ref (gz G + b)), (1, .int z1)]) rfl ?_
        refine am_goto dX5_matchSet_30 (by decide : ((30 : Nat) : Int) + (-26) = ((4 : Nat) : Int)) ?_
        rw [show (fX5_matchSet_4 p z1 (fu + 1) x3 x2) = (fX5_matchSet_4 p z1 fu (x3 + 1) x2) from Eq.trans (if_neg c1) (Eq.trans (if_pos c5) (rfl))] at kx
        exact ih (x3 + 1) x2 (ivU_s c1 iv)  kx
      · refine am_iload_n dX5_matchSet_21 1 rfl ?_
        refine am_iconst (v := 1) dX5_matchSet_22 (by decide) ?_
        refine am_iload_n dX5_matchSet_23 0 rfl ?_
        refine am_ishl dX5_matchSet_24 ?_
        refine am_ior dX5_matchSet_25 ?_
        refine am_istore_n dX5_matchSet_26 (by decide) (lv' := [(2, .int (x2 ||| (1 <<< (x3 &&& 31)))), (3, .int x3), (0, .ref (gz G + b)), (1, .int z1)]) rfl ?_
        refine am_iinc (v := (x3 + 1)) dX5_matchSet_27 1 rfl rfl (by decide) (lv' := [(3, .int (x3 + 1)), (2, .int (x2 ||| (1 <<< (x3 &&& 31)))), (0, .ref (gz G + b)), (1, .int z1)]) rfl ?_
        refine am_goto dX5_matchSet_30 (by decide : ((30 : Nat) : Int) + (-26) = ((4 : Nat) : Int)) ?_
        rw [show (fX5_matchSet_4 p z1 (fu + 1) x3 x2) = (fX5_matchSet_4 p z1 fu (x3 + 1) (x2 ||| (1 <<< (x3 &&& 31)))) from Eq.trans (if_neg c1) (Eq.trans (if_neg c5) (rfl))] at kx
        exact ih (x3 + 1) (x2 ||| (1 <<< (x3 &&& 31))) (ivU_s c1 iv)  kx
def fX5_matchSet (p : Pl) (z1 : Int32) : Int32 := (fX5_matchSet_4 p z1 (fuU (p.1 8) 0) 0 0).2
set_option maxRecDepth 20000 in
theorem ctX5_matchSet {l : Launch} {G : GM} {h : List va_E} {b : Nat} {p : Pl} (hp : PlantAt G h b p) (z1 : Int32) : Ct l G mX5_matchSet 2 0 0 [.ref (gz G + b), .int z1] h (fun v h1 => v = some (.int (fX5_matchSet p z1)) ∧ h1 = h) := by
  show Tr l G mX5_matchSet 2 0 0 0 [(0, .ref (gz G + b)), (1, .int z1)] [] h _
  refine am_iconst (v := 0) dX5_matchSet_0 (by decide) ?_
  refine am_istore_n dX5_matchSet_1 (by decide) (lv' := [(2, .int 0), (0, .ref (gz G + b)), (1, .int z1)]) rfl ?_
  refine am_iconst (v := 0) dX5_matchSet_2 (by decide) ?_
  refine am_istore_n dX5_matchSet_3 (by decide) (lv' := [(3, .int 0), (2, .int 0), (0, .ref (gz G + b)), (1, .int z1)]) rfl ?_
  refine wX5_matchSet_4 hp z1 (fuU (p.1 8) 0) 0 0 ivU_i ?_
  refine am_iload_n dX5_matchSet_33 1 rfl ?_
  rw [show (fX5_matchSet p z1) = (fX5_matchSet_4 p z1 (fuU (p.1 8) 0) 0 0).2 from rfl]
  exact am_ireturn dX5_matchSet_34 rfl rfl ⟨rfl, rfl⟩
