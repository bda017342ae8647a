/-! Writing methods of the class's plant (by program). -/
theorem hs_id {h : List va_E} {a : Nat} {c : va_E} (hr : h[a]? = some c) : h.set a c = h := by
  apply List.ext_getElem?
  intro i
  by_cases hi : a = i
  · subst hi; rw [hs_self hr, hr]
  · rw [List.getElem?_set_ne hi]
theorem imn_ok {n n2 : Nat} (h1 : n < 2147483648) (h2 : n2 < 2147483648) : ¬ imn (nI n) (nI n2) < 0 ∧ (0 : Int32).toNatClampNeg + (imn (nI n) (nI n2)).toNatClampNeg ≤ n ∧ (0 : Int32).toNatClampNeg + (imn (nI n) (nI n2)).toNatClampNeg ≤ n2 := by
  have h0 : (0 : Int32).toNatClampNeg = 0 := rfl
  unfold imn
  by_cases hc : nI n2 < nI n
  · rw [if_pos hc]
    have hlt := (nI_ltI (by omega) (by omega)).mp hc
    refine ⟨nI_pos (by omega), ?_, ?_⟩
    · rw [nI_clamp (by omega)]; omega
    · rw [nI_clamp (by omega)]; omega
  · rw [if_neg hc]
    have hle : n ≤ n2 := by
      rcases Nat.lt_or_ge n2 n with q | q
      · exact absurd ((nI_ltI (by omega) (by omega)).mpr q) hc
      · exact q
    refine ⟨nI_pos (by omega), ?_, ?_⟩
    · rw [nI_clamp (by omega)]; omega
    · rw [nI_clamp (by omega)]; omega
/-- what is done with a value that has a name -/
def bnd {α β : Type} (x : α) (k : α → β) : β := k x
theorem bnd_eq {α β : Type} {x r : α} {k : α → β} {y : β} (h : x = r) (h2 : k r = y) : bnd x k = y := by subst h; exact h2
theorem iv_top {B x : Int32} (c : ¬ B ≤ x) : ¬ (2147483647 : Int32) ≤ x := by
  intro q
  apply c
  have h1 := Int32.le_iff_toInt_le.mp q
  have h2 : (2147483647 : Int32).toInt = 2147483647 := rfl
  have h3 := i32_rng B
  exact Int32.le_iff_toInt_le.mpr (by omega)
theorem nn_s {x B : Int32} (h : ¬ x < 0) (c : ¬ B ≤ x) : ¬ x + 1 < 0 := by
  have h1 : x.toInt < B.toInt := Int32.lt_iff_toInt_lt.mp (Int32.not_le.mp c)
  have h2 : (0 : Int32).toInt ≤ x.toInt := Int32.le_iff_toInt_le.mp (Int32.not_lt.mp h)
  have h3 : (0 : Int32).toInt = 0 := rfl
  have h4 : (1 : Int32).toInt = 1 := rfl
  have hB := i32_rng B
  have e : (x + 1).toInt = x.toInt + 1 := by rw [i32_add (by omega) (by omega), h4]
  exact Int32.not_lt.mpr (Int32.le_iff_toInt_le.mpr (by omega))
theorem pl_eq {G : GM} {h : List va_E} {b : Nat} {p q : Pl} (e : p = q) (hp : PlantAt G h b p) : PlantAt G h b q := e ▸ hp
theorem dX6_put_0 : decode cX6_put 0 = .ok (.iload_n 1, 1) := by decide +kernel
theorem dX6_put_1 : decode cX6_put 1 = .ok (.ifCond .lt 13, 3) := by decide +kernel
theorem dX6_put_4 : decode cX6_put 4 = .ok (.iload_n 1, 1) := by decide +kernel
theorem dX6_put_5 : decode cX6_put 5 = .ok (.aload_n 0, 1) := by decide +kernel
theorem dX6_put_6 : decode cX6_put 6 = .ok (.arraylength, 1) := by decide +kernel
theorem dX6_put_7 : decode cX6_put 7 = .ok (.if_icmp .ge 7, 3) := by decide +kernel
theorem dX6_put_10 : decode cX6_put 10 = .ok (.aload_n 0, 1) := by decide +kernel
theorem dX6_put_11 : decode cX6_put 11 = .ok (.iload_n 1, 1) := by decide +kernel
theorem dX6_put_12 : decode cX6_put 12 = .ok (.iload_n 2, 1) := by decide +kernel
theorem dX6_put_13 : decode cX6_put 13 = .ok (.iastore, 1) := by decide +kernel
theorem dX6_put_14 : decode cX6_put 14 = .ok (.return_, 1) := by decide +kernel
def fX6_put (n : Nat) (f : Nat → Int32) (z2 : Int32) (z3 : Int32) : (Nat → Int32) := (if z2 < 0 then f else (if (nI n) ≤ z2 then f else (upd f z2.toNatClampNeg z3)))
set_option maxRecDepth 20000 in
theorem ctX6_put {l : Launch} {G : GM} {h : List va_E} {a n : Nat} {f : Nat → Int32} (hr1 : h[a]? = some (.inl (0, n, .inl f))) (hn1 : n < 2147483648) (z2 : Int32) (z3 : Int32) : Ct l G mX6_put 0 0 0 [.ref (gz G + a), .int z2, .int z3] h (fun v h1 => v = none ∧ h1 = h.set a (.inl (0, n, .inl (fX6_put n f z2 z3)))) := by
  show Tr l G mX6_put 0 0 0 0 [(0, .ref (gz G + a)), (1, .int z2), (2, .int z3)] [] h _
  refine am_iload_n dX6_put_0 1 rfl ?_
  refine am_if_lt dX6_put_1 (by decide : ((1 : Nat) : Int) + (13) = ((14 : Nat) : Int)) (fun c1 => ?_) (fun c1 => ?_)
  · exact am_return dX6_put_14 rfl ⟨rfl, by rw [show (fX6_put n f z2 z3) = f from Eq.trans (if_pos c1) (rfl)]; exact (hs_id hr1).symm⟩
  · refine am_iload_n dX6_put_4 1 rfl ?_
    refine am_aload_n dX6_put_5 0 rfl ?_
    refine am_alen (v := (nI n)) dX6_put_6 hr1 rfl (by rfl) ?_
    refine am_icmp_ge dX6_put_7 (by decide : ((7 : Nat) : Int) + (7) = ((14 : Nat) : Int)) (fun c2 => ?_) (fun c2 => ?_)
    · exact am_return dX6_put_14 rfl ⟨rfl, by rw [show (fX6_put n f z2 z3) = f from Eq.trans (if_neg c1) (Eq.trans (if_pos c2) (rfl))]; exact (hs_id hr1).symm⟩
    · refine am_aload_n dX6_put_10 0 rfl ?_
      refine am_iload_n dX6_put_11 1 rfl ?_
      refine am_iload_n dX6_put_12 2 rfl ?_
      refine am_iast (f := f) dX6_put_13 hr1 (vp_in2 c1 c2 hn1) ?_
      have w3 := hs_self (c1 := .inl (0, n, .inl (upd f z2.toNatClampNeg z3))) hr1
      exact am_return dX6_put_14 rfl ⟨rfl, by rw [show (fX6_put n f z2 z3) = (upd f z2.toNatClampNeg z3) from Eq.trans (if_neg c1) (Eq.trans (if_neg c2) (rfl))]⟩

theorem dX6_copyRow_0 : decode cX6_copyRow 0 = .ok (.aload_n 0, 1) := by decide +kernel
theorem dX6_copyRow_1 : decode cX6_copyRow 1 = .ok (.iconst 0, 1) := by decide +kernel
theorem dX6_copyRow_2 : decode cX6_copyRow 2 = .ok (.aload_n 1, 1) := by decide +kernel
theorem dX6_copyRow_3 : decode cX6_copyRow 3 = .ok (.iconst 0, 1) := by decide +kernel
theorem dX6_copyRow_4 : decode cX6_copyRow 4 = .ok (.aload_n 0, 1) := by decide +kernel
theorem dX6_copyRow_5 : decode cX6_copyRow 5 = .ok (.arraylength, 1) := by decide +kernel
theorem dX6_copyRow_6 : decode cX6_copyRow 6 = .ok (.aload_n 1, 1) := by decide +kernel
theorem dX6_copyRow_7 : decode cX6_copyRow 7 = .ok (.arraylength, 1) := by decide +kernel
theorem dX6_copyRow_8 : decode cX6_copyRow 8 = .ok (.invokestatic 203, 3) := by decide +kernel
theorem dX6_copyRow_11 : decode cX6_copyRow 11 = .ok (.invokestatic 378, 3) := by decide +kernel
theorem dX6_copyRow_14 : decode cX6_copyRow 14 = .ok (.return_, 1) := by decide +kernel
def fX6_copyRow (n : Nat) (f : Nat → Int32) (n2 : Nat) (f2 : Nat → Int32) : (Nat → Int32) := (va_cpy f f2 (0 : Int32).toNatClampNeg (0 : Int32).toNatClampNeg (imn (nI n) (nI n2)).toNatClampNeg)
set_option maxRecDepth 20000 in
theorem ctX6_copyRow {l : Launch} {G : GM} {h : List va_E} {a n : Nat} {f : Nat → Int32} (hr1 : h[a]? = some (.inl (0, n, .inl f))) (hn1 : n < 2147483648) {a2 n2 : Nat} {f2 : Nat → Int32} (hr2 : h[a2]? = some (.inl (0, n2, .inl f2))) (hn2 : n2 < 2147483648) (hne : a ≠ a2) : Ct l G mX6_copyRow 1 0 0 [.ref (gz G + a), .ref (gz G + a2)] h (fun v h1 => v = none ∧ h1 = h.set a2 (.inl (0, n2, .inl (fX6_copyRow n f n2 f2)))) := by
  show Tr l G mX6_copyRow 1 0 0 0 [(0, .ref (gz G + a)), (1, .ref (gz G + a2))] [] h _
  refine am_aload_n dX6_copyRow_0 0 rfl ?_
  refine am_iconst (v := 0) dX6_copyRow_1 (by decide) ?_
  refine am_aload_n dX6_copyRow_2 1 rfl ?_
  refine am_iconst (v := 0) dX6_copyRow_3 (by decide) ?_
  refine am_aload_n dX6_copyRow_4 0 rfl ?_
  refine am_alen (v := (nI n)) dX6_copyRow_5 hr1 rfl (by rfl) ?_
  refine am_aload_n dX6_copyRow_6 1 rfl ?_
  refine am_alen (v := (nI n2)) dX6_copyRow_7 hr2 rfl (by rfl) ?_
  refine am_mmin dX6_copyRow_8 kXX6_203 (Nat.le_of_ble_eq_true rfl) (by decide) ?_
  refine am_copyi (f := f) (g := f2) dX6_copyRow_11 kXX6_378 hr1 hr2 (by decide) (by decide) (imn_ok hn1 hn2).1 (imn_ok hn1 hn2).2.1 (imn_ok hn1 hn2).2.2 (Nat.le_of_ble_eq_true rfl) (by decide) ?_
  have w2 := hs_ne (a := a2) (c1 := .inl (0, n2, .inl (va_cpy f f2 (0 : Int32).toNatClampNeg (0 : Int32).toNatClampNeg (imn (nI n) (nI n2)).toNatClampNeg))) hr1 (by omega)
  have w1 := hs_self (c1 := .inl (0, n2, .inl (va_cpy f f2 (0 : Int32).toNatClampNeg (0 : Int32).toNatClampNeg (imn (nI n) (nI n2)).toNatClampNeg))) hr2
  exact am_return dX6_copyRow_14 rfl ⟨rfl, by rw [show (fX6_copyRow n f n2 f2) = (va_cpy f f2 (0 : Int32).toNatClampNeg (0 : Int32).toNatClampNeg (imn (nI n) (nI n2)).toNatClampNeg) from rfl]⟩

theorem dJ6_bitCount_0f7a4_0 : decode cJ6_bitCount_0f7a4 0 = .ok (.iload_n 0, 1) := by decide +kernel
theorem dJ6_bitCount_0f7a4_1 : decode cJ6_bitCount_0f7a4 1 = .ok (.iload_n 0, 1) := by decide +kernel
theorem dJ6_bitCount_0f7a4_2 : decode cJ6_bitCount_0f7a4 2 = .ok (.iconst 1, 1) := by decide +kernel
theorem dJ6_bitCount_0f7a4_3 : decode cJ6_bitCount_0f7a4 3 = .ok (.iushr, 1) := by decide +kernel
theorem dJ6_bitCount_0f7a4_4 : decode cJ6_bitCount_0f7a4 4 = .ok (.ldc_w 265, 3) := by decide +kernel
theorem dJ6_bitCount_0f7a4_7 : decode cJ6_bitCount_0f7a4 7 = .ok (.iand, 1) := by decide +kernel
theorem dJ6_bitCount_0f7a4_8 : decode cJ6_bitCount_0f7a4 8 = .ok (.isub, 1) := by decide +kernel
theorem dJ6_bitCount_0f7a4_9 : decode cJ6_bitCount_0f7a4 9 = .ok (.istore_n 0, 1) := by decide +kernel
theorem dJ6_bitCount_0f7a4_10 : decode cJ6_bitCount_0f7a4 10 = .ok (.iload_n 0, 1) := by decide +kernel
theorem dJ6_bitCount_0f7a4_11 : decode cJ6_bitCount_0f7a4 11 = .ok (.ldc_w 266, 3) := by decide +kernel
theorem dJ6_bitCount_0f7a4_14 : decode cJ6_bitCount_0f7a4 14 = .ok (.iand, 1) := by decide +kernel
theorem dJ6_bitCount_0f7a4_15 : decode cJ6_bitCount_0f7a4 15 = .ok (.iload_n 0, 1) := by decide +kernel
theorem dJ6_bitCount_0f7a4_16 : decode cJ6_bitCount_0f7a4 16 = .ok (.iconst 2, 1) := by decide +kernel
theorem dJ6_bitCount_0f7a4_17 : decode cJ6_bitCount_0f7a4 17 = .ok (.iushr, 1) := by decide +kernel
theorem dJ6_bitCount_0f7a4_18 : decode cJ6_bitCount_0f7a4 18 = .ok (.ldc_w 266, 3) := by decide +kernel
theorem dJ6_bitCount_0f7a4_21 : decode cJ6_bitCount_0f7a4 21 = .ok (.iand, 1) := by decide +kernel
theorem dJ6_bitCount_0f7a4_22 : decode cJ6_bitCount_0f7a4 22 = .ok (.iadd, 1) := by decide +kernel
theorem dJ6_bitCount_0f7a4_23 : decode cJ6_bitCount_0f7a4 23 = .ok (.istore_n 0, 1) := by decide +kernel
theorem dJ6_bitCount_0f7a4_24 : decode cJ6_bitCount_0f7a4 24 = .ok (.iload_n 0, 1) := by decide +kernel
theorem dJ6_bitCount_0f7a4_25 : decode cJ6_bitCount_0f7a4 25 = .ok (.iload_n 0, 1) := by decide +kernel
theorem dJ6_bitCount_0f7a4_26 : decode cJ6_bitCount_0f7a4 26 = .ok (.iconst 4, 1) := by decide +kernel
theorem dJ6_bitCount_0f7a4_27 : decode cJ6_bitCount_0f7a4 27 = .ok (.iushr, 1) := by decide +kernel
theorem dJ6_bitCount_0f7a4_28 : decode cJ6_bitCount_0f7a4 28 = .ok (.iadd, 1) := by decide +kernel
theorem dJ6_bitCount_0f7a4_29 : decode cJ6_bitCount_0f7a4 29 = .ok (.ldc_w 267, 3) := by decide +kernel
theorem dJ6_bitCount_0f7a4_32 : decode cJ6_bitCount_0f7a4 32 = .ok (.iand, 1) := by decide +kernel
theorem dJ6_bitCount_0f7a4_33 : decode cJ6_bitCount_0f7a4 33 = .ok (.istore_n 0, 1) := by decide +kernel
theorem dJ6_bitCount_0f7a4_34 : decode cJ6_bitCount_0f7a4 34 = .ok (.iload_n 0, 1) := by decide +kernel
theorem dJ6_bitCount_0f7a4_35 : decode cJ6_bitCount_0f7a4 35 = .ok (.iload_n 0, 1) := by decide +kernel
theorem dJ6_bitCount_0f7a4_36 : decode cJ6_bitCount_0f7a4 36 = .ok (.bipush 8, 2) := by decide +kernel
theorem dJ6_bitCount_0f7a4_38 : decode cJ6_bitCount_0f7a4 38 = .ok (.iushr, 1) := by decide +kernel
theorem dJ6_bitCount_0f7a4_39 : decode cJ6_bitCount_0f7a4 39 = .ok (.iadd, 1) := by decide +kernel
theorem dJ6_bitCount_0f7a4_40 : decode cJ6_bitCount_0f7a4 40 = .ok (.istore_n 0, 1) := by decide +kernel
theorem dJ6_bitCount_0f7a4_41 : decode cJ6_bitCount_0f7a4 41 = .ok (.iload_n 0, 1) := by decide +kernel
theorem dJ6_bitCount_0f7a4_42 : decode cJ6_bitCount_0f7a4 42 = .ok (.iload_n 0, 1) := by decide +kernel
theorem dJ6_bitCount_0f7a4_43 : decode cJ6_bitCount_0f7a4 43 = .ok (.bipush 16, 2) := by decide +kernel
theorem dJ6_bitCount_0f7a4_45 : decode cJ6_bitCount_0f7a4 45 = .ok (.iushr, 1) := by decide +kernel
theorem dJ6_bitCount_0f7a4_46 : decode cJ6_bitCount_0f7a4 46 = .ok (.iadd, 1) := by decide +kernel
theorem dJ6_bitCount_0f7a4_47 : decode cJ6_bitCount_0f7a4 47 = .ok (.istore_n 0, 1) := by decide +kernel
theorem dJ6_bitCount_0f7a4_48 : decode cJ6_bitCount_0f7a4 48 = .ok (.iload_n 0, 1) := by decide +kernel
theorem dJ6_bitCount_0f7a4_49 : decode cJ6_bitCount_0f7a4 49 = .ok (.bipush 63, 2) := by decide +kernel
theorem dJ6_bitCount_0f7a4_51 : decode cJ6_bitCount_0f7a4 51 = .ok (.iand, 1) := by decide +kernel
theorem dJ6_bitCount_0f7a4_52 : decode cJ6_bitCount_0f7a4 52 = .ok (.ireturn, 1) := by decide +kernel
def fJ6_bitCount_0f7a4 (z1 : Int32) : Int32 := ((((((((z1 - ((iushr z1 1) &&& 1431655765)) &&& 858993459) + ((iushr (z1 - ((iushr z1 1) &&& 1431655765)) 2) &&& 858993459)) + (iushr (((z1 - ((iushr z1 1) &&& 1431655765)) &&& 858993459) + ((iushr (z1 - ((iushr z1 1) &&& 1431655765)) 2) &&& 858993459)) 4)) &&& 252645135) + (iushr (((((z1 - ((iushr z1 1) &&& 1431655765)) &&& 858993459) + ((iushr (z1 - ((iushr z1 1) &&& 1431655765)) 2) &&& 858993459)) + (iushr (((z1 - ((iushr z1 1) &&& 1431655765)) &&& 858993459) + ((iushr (z1 - ((iushr z1 1) &&& 1431655765)) 2) &&& 858993459)) 4)) &&& 252645135) 8)) + (iushr ((((((z1 - ((iushr z1 1) &&& 1431655765)) &&& 858993459) + ((iushr (z1 - ((iushr z1 1) &&& 1431655765)) 2) &&& 858993459)) + (iushr (((z1 - ((iushr z1 1) &&& 1431655765)) &&& 858993459) + ((iushr (z1 - ((iushr z1 1) &&& 1431655765)) 2) &&& 858993459)) 4)) &&& 252645135) + (iushr (((((z1 - ((iushr z1 1) &&& 1431655765)) &&& 858993459) + ((iushr (z1 - ((iushr z1 1) &&& 1431655765)) 2) &&& 858993459)) + (iushr (((z1 - ((iushr z1 1) &&& 1431655765)) &&& 858993459) + ((iushr (z1 - ((iushr z1 1) &&& 1431655765)) 2) &&& 858993459)) 4)) &&& 252645135) 8)) 16)) &&& 63)
set_option maxRecDepth 20000 in
theorem ctJ6_bitCount_0f7a4 {l : Launch} {G : GM} {h : List va_E} (z1 : Int32) : Ct l G mJ6_bitCount_0f7a4 0 0 0 [.int z1] h (fun v h1 => v = some (.int (fJ6_bitCount_0f7a4 z1)) ∧ h1 = h) := by
  show Tr l G mJ6_bitCount_0f7a4 0 0 0 0 [(0, .int z1)] [] h _
  refine am_iload_n dJ6_bitCount_0f7a4_0 0 rfl ?_
  refine am_iload_n dJ6_bitCount_0f7a4_1 0 rfl ?_
  refine am_iconst (v := 1) dJ6_bitCount_0f7a4_2 (by decide) ?_
  refine am_iushr (v := (iushr z1 1)) dJ6_bitCount_0f7a4_3 rfl ?_
  refine am_ldc_w (v := 1431655765) dJ6_bitCount_0f7a4_4 kKJ6_265 ?_
  refine am_iand dJ6_bitCount_0f7a4_7 ?_
  refine am_isub dJ6_bitCount_0f7a4_8 ?_
  refine am_istore_n dJ6_bitCount_0f7a4_9 (by decide) (lv' := [(0, .int (z1 - ((iushr z1 1) &&& 1431655765)))]) rfl ?_
  refine am_iload_n dJ6_bitCount_0f7a4_10 0 rfl ?_
  refine am_ldc_w (v := 858993459) dJ6_bitCount_0f7a4_11 kKJ6_266 ?_
  refine am_iand dJ6_bitCount_0f7a4_14 ?_
  refine am_iload_n dJ6_bitCount_0f7a4_15 0 rfl ?_
  refine am_iconst (v := 2) dJ6_bitCount_0f7a4_16 (by decide) ?_
  refine am_iushr (v := (iushr (z1 - ((iushr z1 1) &&& 1431655765)) 2)) dJ6_bitCount_0f7a4_17 rfl ?_
  refine am_ldc_w (v := 858993459) dJ6_bitCount_0f7a4_18 kKJ6_266 ?_
  refine am_iand dJ6_bitCount_0f7a4_21 ?_
  refine am_iadd dJ6_bitCount_0f7a4_22 ?_
  refine am_istore_n dJ6_bitCount_0f7a4_23 (by decide) (lv' := [(0, .int (((z1 - ((iushr z1 1) &&& 1431655765)) &&& 858993459) + ((iushr (z1 - ((iushr z1 1) &&& 1431655765)) 2) &&& 858993459)))]) rfl ?_
  refine am_iload_n dJ6_bitCount_0f7a4_24 0 rfl ?_
  refine am_iload_n dJ6_bitCount_0f7a4_25 0 rfl ?_
  refine am_iconst (v := 4) dJ6_bitCount_0f7a4_26 (by decide) ?_
  refine am_iushr (v := (iushr (((z1 - ((iushr z1 1) &&& 1431655765)) &&& 858993459) + ((iushr (z1 - ((iushr z1 1) &&& 1431655765)) 2) &&& 858993459)) 4)) dJ6_bitCount_0f7a4_27 rfl ?_
  refine am_iadd dJ6_bitCount_0f7a4_28 ?_
  refine am_ldc_w (v := 252645135) dJ6_bitCount_0f7a4_29 kKJ6_267 ?_
  refine am_iand dJ6_bitCount_0f7a4_32 ?_
  refine am_istore_n dJ6_bitCount_0f7a4_33 (by decide) (lv' := [(0, .int (((((z1 - ((iushr z1 1) &&& 1431655765)) &&& 858993459) + ((iushr (z1 - ((iushr z1 1) &&& 1431655765)) 2) &&& 858993459)) + (iushr (((z1 - ((iushr z1 1) &&& 1431655765)) &&& 858993459) + ((iushr (z1 - ((iushr z1 1) &&& 1431655765)) 2) &&& 858993459)) 4)) &&& 252645135))]) rfl ?_
  refine am_iload_n dJ6_bitCount_0f7a4_34 0 rfl ?_
  refine am_iload_n dJ6_bitCount_0f7a4_35 0 rfl ?_
  refine am_bipush (v := 8) dJ6_bitCount_0f7a4_36 (by decide) ?_
  refine am_iushr (v := (iushr (((((z1 - ((iushr z1 1) &&& 1431655765)) &&& 858993459) + ((iushr (z1 - ((iushr z1 1) &&& 1431655765)) 2) &&& 858993459)) + (iushr (((z1 - ((iushr z1 1) &&& 1431655765)) &&& 858993459) + ((iushr (z1 - ((iushr z1 1) &&& 1431655765)) 2) &&& 858993459)) 4)) &&& 252645135) 8)) dJ6_bitCount_0f7a4_38 rfl ?_
  refine am_iadd dJ6_bitCount_0f7a4_39 ?_
  refine am_istore_n dJ6_bitCount_0f7a4_40 (by decide) (lv' := [(0, .int ((((((z1 - ((iushr z1 1) &&& 1431655765)) &&& 858993459) + ((iushr (z1 - ((iushr z1 1) &&& 1431655765)) 2) &&& 858993459)) + (iushr (((z1 - ((iushr z1 1) &&& 1431655765)) &&& 858993459) + ((iushr (z1 - ((iushr z1 1) &&& 1431655765)) 2) &&& 858993459)) 4)) &&& 252645135) + (iushr (((((z1 - ((iushr z1 1) &&& 1431655765)) &&& 858993459) + ((iushr (z1 - ((iushr z1 1) &&& 1431655765)) 2) &&& 858993459)) + (iushr (((z1 - ((iushr z1 1) &&& 1431655765)) &&& 858993459) + ((iushr (z1 - ((iushr z1 1) &&& 1431655765)) 2) &&& 858993459)) 4)) &&& 252645135) 8)))]) rfl ?_
  refine am_iload_n dJ6_bitCount_0f7a4_41 0 rfl ?_
  refine am_iload_n dJ6_bitCount_0f7a4_42 0 rfl ?_
  refine am_bipush (v := 16) dJ6_bitCount_0f7a4_43 (by decide) ?_
  refine am_iushr (v := (iushr ((((((z1 - ((iushr z1 1) &&& 1431655765)) &&& 858993459) + ((iushr (z1 - ((iushr z1 1) &&& 1431655765)) 2) &&& 858993459)) + (iushr (((z1 - ((iushr z1 1) &&& 1431655765)) &&& 858993459) + ((iushr (z1 - ((iushr z1 1) &&& 1431655765)) 2) &&& 858993459)) 4)) &&& 252645135) + (iushr (((((z1 - ((iushr z1 1) &&& 1431655765)) &&& 858993459) + ((iushr (z1 - ((iushr z1 1) &&& 1431655765)) 2) &&& 858993459)) + (iushr (((z1 - ((iushr z1 1) &&& 1431655765)) &&& 858993459) + ((iushr (z1 - ((iushr z1 1) &&& 1431655765)) 2) &&& 858993459)) 4)) &&& 252645135) 8)) 16)) dJ6_bitCount_0f7a4_45 rfl ?_
  refine am_iadd dJ6_bitCount_0f7a4_46 ?_
  refine am_istore_n dJ6_bitCount_0f7a4_47 (by decide) (lv' := [(0, .int (((((((z1 - ((iushr z1 1) &&& 1431655765)) &&& 858993459) + ((iushr (z1 - ((iushr z1 1) &&& 1431655765)) 2) &&& 858993459)) + (iushr (((z1 - ((iushr z1 1) &&& 1431655765)) &&& 858993459) + ((iushr (z1 - ((iushr z1 1) &&& 1431655765)) 2) &&& 858993459)) 4)) &&& 252645135) + (iushr (((((z1 - ((iushr z1 1) &&& 1431655765)) &&& 858993459) + ((iushr (z1 - ((iushr z1 1) &&& 1431655765)) 2) &&& 858993459)) + (iushr (((z1 - ((iushr z1 1) &&& 1431655765)) &&& 858993459) + ((iushr (z1 - ((iushr z1 1) &&& 1431655765)) 2) &&& 858993459)) 4)) &&& 252645135) 8)) + (iushr ((((((z1 - ((iushr z1 1) &&& 1431655765)) &&& 858993459) + ((iushr (z1 - ((iushr z1 1) &&& 1431655765)) 2) &&& 858993459)) + (iushr (((z1 - ((iushr z1 1) &&& 1431655765)) &&& 858993459) + ((iushr (z1 - ((iushr z1 1) &&& 1431655765)) 2) &&& 858993459)) 4)) &&& 252645135) + (iushr (((((z1 - ((iushr z1 1) &&& 1431655765)) &&& 858993459) + ((iushr (z1 - ((iushr z1 1) &&& 1431655765)) 2) &&& 858993459)) + (iushr (((z1 - ((iushr z1 1) &&& 1431655765)) &&& 858993459) + ((iushr (z1 - ((iushr z1 1) &&& 1431655765)) 2) &&& 858993459)) 4)) &&& 252645135) 8)) 16)))]) rfl ?_
  refine am_iload_n dJ6_bitCount_0f7a4_48 0 rfl ?_
  refine am_bipush (v := 63) dJ6_bitCount_0f7a4_49 (by decide) ?_
  refine am_iand dJ6_bitCount_0f7a4_51 ?_
  rw [show (fJ6_bitCount_0f7a4 z1) = ((((((((z1 - ((iushr z1 1) &&& 1431655765)) &&& 858993459) + ((iushr (z1 - ((iushr z1 1) &&& 1431655765)) 2) &&& 858993459)) + (iushr (((z1 - ((iushr z1 1) &&& 1431655765)) &&& 858993459) + ((iushr (z1 - ((iushr z1 1) &&& 1431655765)) 2) &&& 858993459)) 4)) &&& 252645135) + (iushr (((((z1 - ((iushr z1 1) &&& 1431655765)) &&& 858993459) + ((iushr (z1 - ((iushr z1 1) &&& 1431655765)) 2) &&& 858993459)) + (iushr (((z1 - ((iushr z1 1) &&& 1431655765)) &&& 858993459) + ((iushr (z1 - ((iushr z1 1) &&& 1431655765)) 2) &&& 858993459)) 4)) &&& 252645135) 8)) + (iushr ((((((z1 - ((iushr z1 1) &&& 1431655765)) &&& 858993459) + ((iushr (z1 - ((iushr z1 1) &&& 1431655765)) 2) &&& 858993459)) + (iushr (((z1 - ((iushr z1 1) &&& 1431655765)) &&& 858993459) + ((iushr (z1 - ((iushr z1 1) &&& 1431655765)) 2) &&& 858993459)) 4)) &&& 252645135) + (iushr (((((z1 - ((iushr z1 1) &&& 1431655765)) &&& 858993459) + ((iushr (z1 - ((iushr z1 1) &&& 1431655765)) 2) &&& 858993459)) + (iushr (((z1 - ((iushr z1 1) &&& 1431655765)) &&& 858993459) + ((iushr (z1 - ((iushr z1 1) &&& 1431655765)) 2) &&& 858993459)) 4)) &&& 252645135) 8)) 16)) &&& 63) from rfl]
  exact am_ireturn dJ6_bitCount_0f7a4_52 rfl rfl ⟨rfl, rfl⟩

theorem dX6_lowestOf_0 : decode cX6_lowestOf 0 = .ok (.iload_n 0, 1) := by decide +kernel
theorem dX6_lowestOf_1 : decode cX6_lowestOf 1 = .ok (.iload_n 0, 1) := by decide +kernel
theorem dX6_lowestOf_2 : decode cX6_lowestOf 2 = .ok (.ineg, 1) := by decide +kernel
theorem dX6_lowestOf_3 : decode cX6_lowestOf 3 = .ok (.iand, 1) := by decide +kernel
theorem dX6_lowestOf_4 : decode cX6_lowestOf 4 = .ok (.iconst 1, 1) := by decide +kernel
theorem dX6_lowestOf_5 : decode cX6_lowestOf 5 = .ok (.isub, 1) := by decide +kernel
theorem dX6_lowestOf_6 : decode cX6_lowestOf 6 = .ok (.invokestatic 346, 3) := by decide +kernel
theorem dX6_lowestOf_9 : decode cX6_lowestOf 9 = .ok (.ireturn, 1) := by decide +kernel
def fX6_lowestOf (z1 : Int32) : Int32 := (fJ6_bitCount_0f7a4 ((z1 &&& (-z1)) - 1))
set_option maxRecDepth 20000 in
theorem ctX6_lowestOf {l : Launch} {G : GM} {h : List va_E} (z1 : Int32) : Ct l G mX6_lowestOf 1 0 0 [.int z1] h (fun v h1 => v = some (.int (fX6_lowestOf z1)) ∧ h1 = h) := by
  show Tr l G mX6_lowestOf 1 0 0 0 [(0, .int z1)] [] h _
  refine am_iload_n dX6_lowestOf_0 0 rfl ?_
  refine am_iload_n dX6_lowestOf_1 0 rfl ?_
  refine am_ineg dX6_lowestOf_2 ?_
  refine am_iand dX6_lowestOf_3 ?_
  refine am_iconst (v := 1) dX6_lowestOf_4 (by decide) ?_
  refine am_isub dX6_lowestOf_5 ?_
  refine am_callS (As := [.int ((z1 &&& (-z1)) - 1)]) (rest := []) dX6_lowestOf_6 kMX6_346 rfl  rfl (Nat.le_of_ble_eq_true rfl) (d2 := 0) (by decide) (k2 := 0) (Nat.zero_le _) (u2 := 0) (Nat.zero_le _) (Nat.le_of_ble_eq_true rfl) (ctJ6_bitCount_0f7a4  ((z1 &&& (-z1)) - 1)) (fun v1 h2 q3 => ?_)
  obtain ⟨rfl, rfl⟩ := q3
  rw [show (fX6_lowestOf z1) = (fJ6_bitCount_0f7a4 ((z1 &&& (-z1)) - 1)) from rfl]
  exact am_ireturn dX6_lowestOf_9 rfl rfl ⟨rfl, rfl⟩

theorem dX0_takeAll_0 : decode cX0_takeAll 0 = .ok (.aload_n 0, 1) := by decide +kernel
theorem dX0_takeAll_1 : decode cX0_takeAll 1 = .ok (.aload_n 1, 1) := by decide +kernel
theorem dX0_takeAll_2 : decode cX0_takeAll 2 = .ok (.getfield 36, 3) := by decide +kernel
theorem dX0_takeAll_5 : decode cX0_takeAll 5 = .ok (.putfield 36, 3) := by decide +kernel
theorem dX0_takeAll_8 : decode cX0_takeAll 8 = .ok (.aload_n 0, 1) := by decide +kernel
theorem dX0_takeAll_9 : decode cX0_takeAll 9 = .ok (.aload_n 1, 1) := by decide +kernel
theorem dX0_takeAll_10 : decode cX0_takeAll 10 = .ok (.getfield 40, 3) := by decide +kernel
theorem dX0_takeAll_13 : decode cX0_takeAll 13 = .ok (.putfield 40, 3) := by decide +kernel
theorem dX0_takeAll_16 : decode cX0_takeAll 16 = .ok (.aload_n 0, 1) := by decide +kernel
theorem dX0_takeAll_17 : decode cX0_takeAll 17 = .ok (.aload_n 1, 1) := by decide +kernel
theorem dX0_takeAll_18 : decode cX0_takeAll 18 = .ok (.getfield 43, 3) := by decide +kernel
theorem dX0_takeAll_21 : decode cX0_takeAll 21 = .ok (.putfield 43, 3) := by decide +kernel
theorem dX0_takeAll_24 : decode cX0_takeAll 24 = .ok (.aload_n 1, 1) := by decide +kernel
theorem dX0_takeAll_25 : decode cX0_takeAll 25 = .ok (.getfield 9, 3) := by decide +kernel
theorem dX0_takeAll_28 : decode cX0_takeAll 28 = .ok (.aload_n 0, 1) := by decide +kernel
theorem dX0_takeAll_29 : decode cX0_takeAll 29 = .ok (.getfield 9, 3) := by decide +kernel
theorem dX0_takeAll_32 : decode cX0_takeAll 32 = .ok (.invokestatic 46, 3) := by decide +kernel
theorem dX0_takeAll_35 : decode cX0_takeAll 35 = .ok (.aload_n 1, 1) := by decide +kernel
theorem dX0_takeAll_36 : decode cX0_takeAll 36 = .ok (.getfield 15, 3) := by decide +kernel
theorem dX0_takeAll_39 : decode cX0_takeAll 39 = .ok (.aload_n 0, 1) := by decide +kernel
theorem dX0_takeAll_40 : decode cX0_takeAll 40 = .ok (.getfield 15, 3) := by decide +kernel
theorem dX0_takeAll_43 : decode cX0_takeAll 43 = .ok (.invokestatic 46, 3) := by decide +kernel
theorem dX0_takeAll_46 : decode cX0_takeAll 46 = .ok (.aload_n 1, 1) := by decide +kernel
theorem dX0_takeAll_47 : decode cX0_takeAll 47 = .ok (.getfield 18, 3) := by decide +kernel
theorem dX0_takeAll_50 : decode cX0_takeAll 50 = .ok (.aload_n 0, 1) := by decide +kernel
theorem dX0_takeAll_51 : decode cX0_takeAll 51 = .ok (.getfield 18, 3) := by decide +kernel
theorem dX0_takeAll_54 : decode cX0_takeAll 54 = .ok (.invokestatic 46, 3) := by decide +kernel
theorem dX0_takeAll_57 : decode cX0_takeAll 57 = .ok (.aload_n 1, 1) := by decide +kernel
theorem dX0_takeAll_58 : decode cX0_takeAll 58 = .ok (.getfield 21, 3) := by decide +kernel
theorem dX0_takeAll_61 : decode cX0_takeAll 61 = .ok (.aload_n 0, 1) := by decide +kernel
theorem dX0_takeAll_62 : decode cX0_takeAll 62 = .ok (.getfield 21, 3) := by decide +kernel
theorem dX0_takeAll_65 : decode cX0_takeAll 65 = .ok (.invokestatic 46, 3) := by decide +kernel
theorem dX0_takeAll_68 : decode cX0_takeAll 68 = .ok (.aload_n 1, 1) := by decide +kernel
theorem dX0_takeAll_69 : decode cX0_takeAll 69 = .ok (.getfield 24, 3) := by decide +kernel
theorem dX0_takeAll_72 : decode cX0_takeAll 72 = .ok (.aload_n 0, 1) := by decide +kernel
theorem dX0_takeAll_73 : decode cX0_takeAll 73 = .ok (.getfield 24, 3) := by decide +kernel
theorem dX0_takeAll_76 : decode cX0_takeAll 76 = .ok (.invokestatic 46, 3) := by decide +kernel
theorem dX0_takeAll_79 : decode cX0_takeAll 79 = .ok (.aload_n 1, 1) := by decide +kernel
theorem dX0_takeAll_80 : decode cX0_takeAll 80 = .ok (.getfield 27, 3) := by decide +kernel
theorem dX0_takeAll_83 : decode cX0_takeAll 83 = .ok (.aload_n 0, 1) := by decide +kernel
theorem dX0_takeAll_84 : decode cX0_takeAll 84 = .ok (.getfield 27, 3) := by decide +kernel
theorem dX0_takeAll_87 : decode cX0_takeAll 87 = .ok (.invokestatic 46, 3) := by decide +kernel
theorem dX0_takeAll_90 : decode cX0_takeAll 90 = .ok (.aload_n 1, 1) := by decide +kernel
theorem dX0_takeAll_91 : decode cX0_takeAll 91 = .ok (.getfield 30, 3) := by decide +kernel
theorem dX0_takeAll_94 : decode cX0_takeAll 94 = .ok (.aload_n 0, 1) := by decide +kernel
theorem dX0_takeAll_95 : decode cX0_takeAll 95 = .ok (.getfield 30, 3) := by decide +kernel
theorem dX0_takeAll_98 : decode cX0_takeAll 98 = .ok (.invokestatic 46, 3) := by decide +kernel
theorem dX0_takeAll_101 : decode cX0_takeAll 101 = .ok (.aload_n 1, 1) := by decide +kernel
theorem dX0_takeAll_102 : decode cX0_takeAll 102 = .ok (.getfield 33, 3) := by decide +kernel
theorem dX0_takeAll_105 : decode cX0_takeAll 105 = .ok (.aload_n 0, 1) := by decide +kernel
theorem dX0_takeAll_106 : decode cX0_takeAll 106 = .ok (.getfield 33, 3) := by decide +kernel
theorem dX0_takeAll_109 : decode cX0_takeAll 109 = .ok (.invokestatic 46, 3) := by decide +kernel
theorem dX0_takeAll_112 : decode cX0_takeAll 112 = .ok (.return_, 1) := by decide +kernel
def fX0_takeAll (p : Pl) (p2 : Pl)  : Pl := (bnd (upR (upR (upS (upS (upS p 0 (p2.1 0)) 1 (p2.1 1)) 2 (p2.1 2)) 0 (fX6_copyRow 6 (p2.2 0) 6 (p.2 0))) 1 (fX6_copyRow 6 (p2.2 1) 6 (p.2 1))) (fun r22 => (bnd (upR (upR (upR r22 2 (fX6_copyRow 6 (p2.2 2) 6 (r22.2 2))) 3 (fX6_copyRow 8 (p2.2 3) 8 (r22.2 3))) 4 (fX6_copyRow 8 (p2.2 4) 8 (r22.2 4))) (fun r43 => (bnd (upR (upR (upR r43 5 (fX6_copyRow 6 (p2.2 5) 6 (r43.2 5))) 6 (fX6_copyRow 6 (p2.2 6) 6 (r43.2 6))) 7 (fX6_copyRow 6 (p2.2 7) 6 (r43.2 7))) (fun r64 => r64))))))
set_option maxRecDepth 20000 in
theorem ctX0_takeAll {l : Launch} {G : GM} {b : Nat} {h0 : List va_E} {p : Pl} (hp : PlantAt G h0 b p) {b2 : Nat} {p2 : Pl} (hp2 : PlantAt G h0 b2 p2) (hd : b + 16 ≤ b2 ∨ b2 + 16 ≤ b)  : Ct l G mX0_takeAll 2 0 0 [.ref (gz G + (b + 1)), .ref (gz G + (b2 + 1))] h0 (fun v h1 => ∃ r, (fX0_takeAll p p2 ) = r ∧ v = none ∧ PlantAt G h1 b r ∧ Fr (fun a => b ≤ a ∧ a < b + 16) h0 h1) := by
  show Tr l G mX0_takeAll 2 0 0 0 [(0, .ref (gz G + (b + 1))), (1, .ref (gz G + (b2 + 1)))] [] h0 _
  have f0 : Fr (fun a => b ≤ a ∧ a < b + 16) h0 h0 := Fr.rf
  refine am_aload_n dX0_takeAll_0 0 rfl ?_
  refine am_aload_n dX0_takeAll_1 1 rfl ?_
  refine am_get (v := .int (p2.1 0)) dX0_takeAll_2 kGX0_36 (pl_1 (p := p2) hp2) rfl ?_
  refine am_put dX0_takeAll_5 kFX0_36 (pl_1 (p := p) hp) (Nat.le_of_ble_eq_true rfl) rfl rfl ?_
  have w2 := PlantAt.keep hp2 (a := (b + 1)) (c := .inr (1, [.int (p2.1 0), .int (p.1 1), .int (p.1 2), .ref (gz G + (b + 2)), .ref (gz G + (b + 3)), .ref (gz G + (b + 4)), .ref (gz G + (b + 5)), .ref (gz G + (b + 6)), .ref (gz G + (b + 7)), .ref (gz G + (b + 8)), .ref (gz G + (b + 9))])) (by omega)
  have w1 := pl_s0 hp (p2.1 0)
  have w3 := Fr.set f0 (a := (b + 1)) (c := .inr (1, [.int (p2.1 0), .int (p.1 1), .int (p.1 2), .ref (gz G + (b + 2)), .ref (gz G + (b + 3)), .ref (gz G + (b + 4)), .ref (gz G + (b + 5)), .ref (gz G + (b + 6)), .ref (gz G + (b + 7)), .ref (gz G + (b + 8)), .ref (gz G + (b + 9))])) (by show b ≤ (b + 1) ∧ (b + 1) < b + 16; omega)
  refine am_aload_n dX0_takeAll_8 0 rfl ?_
  refine am_aload_n dX0_takeAll_9 1 rfl ?_
  refine am_get (v := .int (p2.1 1)) dX0_takeAll_10 kGX0_40 (pl_1 (p := p2) w2) rfl ?_
  refine am_put dX0_takeAll_13 kFX0_40 (pl_1 (p := (upS p 0 (p2.1 0))) w1) (Nat.le_of_ble_eq_true rfl) rfl rfl ?_
  have w5 := PlantAt.keep w2 (a := (b + 1)) (c := .inr (1, [.int (p2.1 0), .int (p2.1 1), .int (p.1 2), .ref (gz G + (b + 2)), .ref (gz G + (b + 3)), .ref (gz G + (b + 4)), .ref (gz G + (b + 5)), .ref (gz G + (b + 6)), .ref (gz G + (b + 7)), .ref (gz G + (b + 8)), .ref (gz G + (b + 9))])) (by omega)
  have w4 := pl_s1 w1 (p2.1 1)
  have w6 := Fr.set w3 (a := (b + 1)) (c := .inr (1, [.int (p2.1 0), .int (p2.1 1), .int (p.1 2), .ref (gz G + (b + 2)), .ref (gz G + (b + 3)), .ref (gz G + (b + 4)), .ref (gz G + (b + 5)), .ref (gz G + (b + 6)), .ref (gz G + (b + 7)), .ref (gz G + (b + 8)), .ref (gz G + (b + 9))])) (by show b ≤ (b + 1) ∧ (b + 1) < b + 16; omega)
  refine am_aload_n dX0_takeAll_16 0 rfl ?_
  refine am_aload_n dX0_takeAll_17 1 rfl ?_
  refine am_get (v := .int (p2.1 2)) dX0_takeAll_18 kGX0_43 (pl_1 (p := p2) w5) rfl ?_
  refine am_put dX0_takeAll_21 kFX0_43 (pl_1 (p := (upS (upS p 0 (p2.1 0)) 1 (p2.1 1))) w4) (Nat.le_of_ble_eq_true rfl) rfl rfl ?_
  have w8 := PlantAt.keep w5 (a := (b + 1)) (c := .inr (1, [.int (p2.1 0), .int (p2.1 1), .int (p2.1 2), .ref (gz G + (b + 2)), .ref (gz G + (b + 3)), .ref (gz G + (b + 4)), .ref (gz G + (b + 5)), .ref (gz G + (b + 6)), .ref (gz G + (b + 7)), .ref (gz G + (b + 8)), .ref (gz G + (b + 9))])) (by omega)
  have w7 := pl_s2 w4 (p2.1 2)
  have w9 := Fr.set w6 (a := (b + 1)) (c := .inr (1, [.int (p2.1 0), .int (p2.1 1), .int (p2.1 2), .ref (gz G + (b + 2)), .ref (gz G + (b + 3)), .ref (gz G + (b + 4)), .ref (gz G + (b + 5)), .ref (gz G + (b + 6)), .ref (gz G + (b + 7)), .ref (gz G + (b + 8)), .ref (gz G + (b + 9))])) (by show b ≤ (b + 1) ∧ (b + 1) < b + 16; omega)
  refine am_aload_n dX0_takeAll_24 1 rfl ?_
  refine am_get (v := .ref (gz G + (b2 + 2))) dX0_takeAll_25 kGX0_9 (pl_1 (p := p2) w8) rfl ?_
  refine am_aload_n dX0_takeAll_28 0 rfl ?_
  refine am_get (v := .ref (gz G + (b + 2))) dX0_takeAll_29 kGX0_9 (pl_1 (p := (upS (upS (upS p 0 (p2.1 0)) 1 (p2.1 1)) 2 (p2.1 2))) w7) rfl ?_
  refine am_callSN (As := [.ref (gz G + (b2 + 2)), .ref (gz G + (b + 2))]) (rest := []) dX0_takeAll_32 kMX0_46 rfl  rfl (Nat.le_of_ble_eq_true rfl) (d2 := 1) (by decide) (k2 := 0) (Nat.zero_le _) (u2 := 0) (Nat.zero_le _) (Nat.le_of_ble_eq_true rfl) (ctX6_copyRow (f := (p2.2 0)) (f2 := (p.2 0)) (pl_r0 (p := p2) w8) (by decide) (pl_r0 (p := (upS (upS (upS p 0 (p2.1 0)) 1 (p2.1 1)) 2 (p2.1 2))) w7) (by decide) (by omega)) (fun v10 h11 q12 => ?_)
  obtain ⟨rfl, rfl⟩ := q12
  have w14 := PlantAt.keep w8 (a := (b + 2)) (c := .inl (0, 6, .inl (fX6_copyRow 6 (p2.2 0) 6 (p.2 0)))) (by omega)
  have w13 := pl_u0 w7 (fX6_copyRow 6 (p2.2 0) 6 (p.2 0))
  have w15 := Fr.set w9 (a := (b + 2)) (c := .inl (0, 6, .inl (fX6_copyRow 6 (p2.2 0) 6 (p.2 0)))) (by show b ≤ (b + 2) ∧ (b + 2) < b + 16; omega)
  refine am_aload_n dX0_takeAll_35 1 rfl ?_
  refine am_get (v := .ref (gz G + (b2 + 3))) dX0_takeAll_36 kGX0_15 (pl_1 (p := p2) w14) rfl ?_
  refine am_aload_n dX0_takeAll_39 0 rfl ?_
  refine am_get (v := .ref (gz G + (b + 3))) dX0_takeAll_40 kGX0_15 (pl_1 (p := (upR (upS (upS (upS p 0 (p2.1 0)) 1 (p2.1 1)) 2 (p2.1 2)) 0 (fX6_copyRow 6 (p2.2 0) 6 (p.2 0)))) w13) rfl ?_
  refine am_callSN (As := [.ref (gz G + (b2 + 3)), .ref (gz G + (b + 3))]) (rest := []) dX0_takeAll_43 kMX0_46 rfl  rfl (Nat.le_of_ble_eq_true rfl) (d2 := 1) (by decide) (k2 := 0) (Nat.zero_le _) (u2 := 0) (Nat.zero_le _) (Nat.le_of_ble_eq_true rfl) (ctX6_copyRow (f := (p2.2 1)) (f2 := (p.2 1)) (pl_r1 (p := p2) w14) (by decide) (pl_r1 (p := (upR (upS (upS (upS p 0 (p2.1 0)) 1 (p2.1 1)) 2 (p2.1 2)) 0 (fX6_copyRow 6 (p2.2 0) 6 (p.2 0)))) w13) (by decide) (by omega)) (fun v16 h17 q18 => ?_)
  obtain ⟨rfl, rfl⟩ := q18
  have w20 := PlantAt.keep w14 (a := (b + 3)) (c := .inl (0, 6, .inl (fX6_copyRow 6 (p2.2 1) 6 (p.2 1)))) (by omega)
  have w19 := pl_u1 w13 (fX6_copyRow 6 (p2.2 1) 6 (p.2 1))
  have w21 := Fr.set w15 (a := (b + 3)) (c := .inl (0, 6, .inl (fX6_copyRow 6 (p2.2 1) 6 (p.2 1)))) (by show b ≤ (b + 3) ∧ (b + 3) < b + 16; omega)
  obtain ⟨r22, e23⟩ : ∃ x, (upR (upR (upS (upS (upS p 0 (p2.1 0)) 1 (p2.1 1)) 2 (p2.1 2)) 0 (fX6_copyRow 6 (p2.2 0) 6 (p.2 0))) 1 (fX6_copyRow 6 (p2.2 1) 6 (p.2 1))) = x := ⟨_, rfl⟩
  have w24 := pl_eq e23 w19
  refine am_aload_n dX0_takeAll_46 1 rfl ?_
  refine am_get (v := .ref (gz G + (b2 + 4))) dX0_takeAll_47 kGX0_18 (pl_1 (p := p2) w20) rfl ?_
  refine am_aload_n dX0_takeAll_50 0 rfl ?_
  refine am_get (v := .ref (gz G + (b + 4))) dX0_takeAll_51 kGX0_18 (pl_1 (p := r22) w24) rfl ?_
  refine am_callSN (As := [.ref (gz G + (b2 + 4)), .ref (gz G + (b + 4))]) (rest := []) dX0_takeAll_54 kMX0_46 rfl  rfl (Nat.le_of_ble_eq_true rfl) (d2 := 1) (by decide) (k2 := 0) (Nat.zero_le _) (u2 := 0) (Nat.zero_le _) (Nat.le_of_ble_eq_true rfl) (ctX6_copyRow (f := (p2.2 2)) (f2 := (r22.2 2)) (pl_r2 (p := p2) w20) (by decide) (pl_r2 (p := r22) w24) (by decide) (by omega)) (fun v25 h26 q27 => ?_)
  obtain ⟨rfl, rfl⟩ := q27
  have w29 := PlantAt.keep w20 (a := (b + 4)) (c := .inl (0, 6, .inl (fX6_copyRow 6 (p2.2 2) 6 (r22.2 2)))) (by omega)
  have w28 := pl_u2 w24 (fX6_copyRow 6 (p2.2 2) 6 (r22.2 2))
  have w30 := Fr.set w21 (a := (b + 4)) (c := .inl (0, 6, .inl (fX6_copyRow 6 (p2.2 2) 6 (r22.2 2)))) (by show b ≤ (b + 4) ∧ (b + 4) < b + 16; omega)
  refine am_aload_n dX0_takeAll_57 1 rfl ?_
  refine am_get (v := .ref (gz G + (b2 + 5))) dX0_takeAll_58 kGX0_21 (pl_1 (p := p2) w29) rfl ?_
  refine am_aload_n dX0_takeAll_61 0 rfl ?_
  refine am_get (v := .ref (gz G + (b + 5))) dX0_takeAll_62 kGX0_21 (pl_1 (p := (upR r22 2 (fX6_copyRow 6 (p2.2 2) 6 (r22.2 2)))) w28) rfl ?_
  refine am_callSN (As := [.ref (gz G + (b2 + 5)), .ref (gz G + (b + 5))]) (rest := []) dX0_takeAll_65 kMX0_46 rfl  rfl (Nat.le_of_ble_eq_true rfl) (d2 := 1) (by decide) (k2 := 0) (Nat.zero_le _) (u2 := 0) (Nat.zero_le _) (Nat.le_of_ble_eq_true rfl) (ctX6_copyRow (f := (p2.2 3)) (f2 := (r22.2 3)) (pl_r3 (p := p2) w29) (by decide) (pl_r3 (p := (upR r22 2 (fX6_copyRow 6 (p2.2 2) 6 (r22.2 2)))) w28) (by decide) (by omega)) (fun v31 h32 q33 => ?_)
  obtain ⟨rfl, rfl⟩ := q33
  have w35 := PlantAt.keep w29 (a := (b + 5)) (c := .inl (0, 8, .inl (fX6_copyRow 8 (p2.2 3) 8 (r22.2 3)))) (by omega)
  have w34 := pl_u3 w28 (fX6_copyRow 8 (p2.2 3) 8 (r22.2 3))
  have w36 := Fr.set w30 (a := (b + 5)) (c := .inl (0, 8, .inl (fX6_copyRow 8 (p2.2 3) 8 (r22.2 3)))) (by show b ≤ (b + 5) ∧ (b + 5) < b + 16; omega)
  refine am_aload_n dX0_takeAll_68 1 rfl ?_
  refine am_get (v := .ref (gz G + (b2 + 6))) dX0_takeAll_69 kGX0_24 (pl_1 (p := p2) w35) rfl ?_
  refine am_aload_n dX0_takeAll_72 0 rfl ?_
  refine am_get (v := .ref (gz G + (b + 6))) dX0_takeAll_73 kGX0_24 (pl_1 (p := (upR (upR r22 2 (fX6_copyRow 6 (p2.2 2) 6 (r22.2 2))) 3 (fX6_copyRow 8 (p2.2 3) 8 (r22.2 3)))) w34) rfl ?_
  refine am_callSN (As := [.ref (gz G + (b2 + 6)), .ref (gz G + (b + 6))]) (rest := []) dX0_takeAll_76 kMX0_46 rfl  rfl (Nat.le_of_ble_eq_true rfl) (d2 := 1) (by decide) (k2 := 0) (Nat.zero_le _) (u2 := 0) (Nat.zero_le _) (Nat.le_of_ble_eq_true rfl) (ctX6_copyRow (f := (p2.2 4)) (f2 := (r22.2 4)) (pl_r4 (p := p2) w35) (by decide) (pl_r4 (p := (upR (upR r22 2 (fX6_copyRow 6 (p2.2 2) 6 (r22.2 2))) 3 (fX6_copyRow 8 (p2.2 3) 8 (r22.2 3)))) w34) (by decide) (by omega)) (fun v37 h38 q39 => ?_)
  obtain ⟨rfl, rfl⟩ := q39
  have w41 := PlantAt.keep w35 (a := (b + 6)) (c := .inl (0, 8, .inl (fX6_copyRow 8 (p2.2 4) 8 (r22.2 4)))) (by omega)
  have w40 := pl_u4 w34 (fX6_copyRow 8 (p2.2 4) 8 (r22.2 4))
  have w42 := Fr.set w36 (a := (b + 6)) (c := .inl (0, 8, .inl (fX6_copyRow 8 (p2.2 4) 8 (r22.2 4)))) (by show b ≤ (b + 6) ∧ (b + 6) < b + 16; omega)
  obtain ⟨r43, e44⟩ : ∃ x, (upR (upR (upR r22 2 (fX6_copyRow 6 (p2.2 2) 6 (r22.2 2))) 3 (fX6_copyRow 8 (p2.2 3) 8 (r22.2 3))) 4 (fX6_copyRow 8 (p2.2 4) 8 (r22.2 4))) = x := ⟨_, rfl⟩
  have w45 := pl_eq e44 w40
  refine am_aload_n dX0_takeAll_79 1 rfl ?_
  refine am_get (v := .ref (gz G + (b2 + 7))) dX0_takeAll_80 kGX0_27 (pl_1 (p := p2) w41) rfl ?_
  refine am_aload_n dX0_takeAll_83 0 rfl ?_
  refine am_get (v := .ref (gz G + (b + 7))) dX0_takeAll_84 kGX0_27 (pl_1 (p := r43) w45) rfl ?_
  refine am_callSN (As := [.ref (gz G + (b2 + 7)), .ref (gz G + (b + 7))]) (rest := []) dX0_takeAll_87 kMX0_46 rfl  rfl (Nat.le_of_ble_eq_true rfl) (d2 := 1) (by decide) (k2 := 0) (Nat.zero_le _) (u2 := 0) (Nat.zero_le _) (Nat.le_of_ble_eq_true rfl) (ctX6_copyRow (f := (p2.2 5)) (f2 := (r43.2 5)) (pl_r5 (p := p2) w41) (by decide) (pl_r5 (p := r43) w45) (by decide) (by omega)) (fun v46 h47 q48 => ?_)
  obtain ⟨rfl, rfl⟩ := q48
  have w50 := PlantAt.keep w41 (a := (b + 7)) (c := .inl (0, 6, .inl (fX6_copyRow 6 (p2.2 5) 6 (r43.2 5)))) (by omega)
  have w49 := pl_u5 w45 (fX6_copyRow 6 (p2.2 5) 6 (r43.2 5))
  have w51 := Fr.set w42 (a := (b + 7)) (c := .inl (0, 6, .inl (fX6_copyRow 6 (p2.2 5) 6 (r43.2 5)))) (by show b ≤ (b + 7) ∧ (b + 7) < b + 16; omega)
  refine am_aload_n dX0_takeAll_90 1 rfl ?_
  refine am_get (v := .ref (gz G + (b2 + 8))) dX0_takeAll_91 kGX0_30 (pl_1 (p := p2) w50) rfl ?_
  refine am_aload_n dX0_takeAll_94 0 rfl ?_
  refine am_get (v := .ref (gz G + (b + 8))) dX0_takeAll_95 kGX0_30 (pl_1 (p := (upR r43 5 (fX6_copyRow 6 (p2.2 5) 6 (r43.2 5)))) w49) rfl ?_
  refine am_callSN (As := [.ref (gz G + (b2 + 8)), .ref (gz G + (b + 8))]) (rest := []) dX0_takeAll_98 kMX0_46 rfl  rfl (Nat.le_of_ble_eq_true rfl) (d2 := 1) (by decide) (k2 := 0) (Nat.zero_le _) (u2 := 0) (Nat.zero_le _) (Nat.le_of_ble_eq_true rfl) (ctX6_copyRow (f := (p2.2 6)) (f2 := (r43.2 6)) (pl_r6 (p := p2) w50) (by decide) (pl_r6 (p := (upR r43 5 (fX6_copyRow 6 (p2.2 5) 6 (r43.2 5)))) w49) (by decide) (by omega)) (fun v52 h53 q54 => ?_)
  obtain ⟨rfl, rfl⟩ := q54
  have w56 := PlantAt.keep w50 (a := (b + 8)) (c := .inl (0, 6, .inl (fX6_copyRow 6 (p2.2 6) 6 (r43.2 6)))) (by omega)
  have w55 := pl_u6 w49 (fX6_copyRow 6 (p2.2 6) 6 (r43.2 6))
  have w57 := Fr.set w51 (a := (b + 8)) (c := .inl (0, 6, .inl (fX6_copyRow 6 (p2.2 6) 6 (r43.2 6)))) (by show b ≤ (b + 8) ∧ (b + 8) < b + 16; omega)
  refine am_aload_n dX0_takeAll_101 1 rfl ?_
  refine am_get (v := .ref (gz G + (b2 + 9))) dX0_takeAll_102 kGX0_33 (pl_1 (p := p2) w56) rfl ?_
  refine am_aload_n dX0_takeAll_105 0 rfl ?_
  refine am_get (v := .ref (gz G + (b + 9))) dX0_takeAll_106 kGX0_33 (pl_1 (p := (upR (upR r43 5 (fX6_copyRow 6 (p2.2 5) 6 (r43.2 5))) 6 (fX6_copyRow 6 (p2.2 6) 6 (r43.2 6)))) w55) rfl ?_
  refine am_callSN (As := [.ref (gz G + (b2 + 9)), .ref (gz G + (b + 9))]) (rest := []) dX0_takeAll_109 kMX0_46 rfl  rfl (Nat.le_of_ble_eq_true rfl) (d2 := 1) (by decide) (k2 := 0) (Nat.zero_le _) (u2 := 0) (Nat.zero_le _) (Nat.le_of_ble_eq_true rfl) (ctX6_copyRow (f := (p2.2 7)) (f2 := (r43.2 7)) (pl_r7 (p := p2) w56) (by decide) (pl_r7 (p := (upR (upR r43 5 (fX6_copyRow 6 (p2.2 5) 6 (r43.2 5))) 6 (fX6_copyRow 6 (p2.2 6) 6 (r43.2 6)))) w55) (by decide) (by omega)) (fun v58 h59 q60 => ?_)
  obtain ⟨rfl, rfl⟩ := q60
  have w62 := PlantAt.keep w56 (a := (b + 9)) (c := .inl (0, 6, .inl (fX6_copyRow 6 (p2.2 7) 6 (r43.2 7)))) (by omega)
  have w61 := pl_u7 w55 (fX6_copyRow 6 (p2.2 7) 6 (r43.2 7))
  have w63 := Fr.set w57 (a := (b + 9)) (c := .inl (0, 6, .inl (fX6_copyRow 6 (p2.2 7) 6 (r43.2 7)))) (by show b ≤ (b + 9) ∧ (b + 9) < b + 16; omega)
  obtain ⟨r64, e65⟩ : ∃ x, (upR (upR (upR r43 5 (fX6_copyRow 6 (p2.2 5) 6 (r43.2 5))) 6 (fX6_copyRow 6 (p2.2 6) 6 (r43.2 6))) 7 (fX6_copyRow 6 (p2.2 7) 6 (r43.2 7))) = x := ⟨_, rfl⟩
  have w66 := pl_eq e65 w61
  exact am_return dX0_takeAll_112 rfl ⟨_, bnd_eq e23 (bnd_eq e44 (bnd_eq e65 (rfl))), rfl, w66, w63⟩

theorem dX5_copyFrom_0 : decode cX5_copyFrom 0 = .ok (.aload_n 0, 1) := by decide +kernel
theorem dX5_copyFrom_1 : decode cX5_copyFrom 1 = .ok (.getfield 12, 3) := by decide +kernel
theorem dX5_copyFrom_4 : decode cX5_copyFrom 4 = .ok (.aload_n 1, 1) := by decide +kernel
theorem dX5_copyFrom_5 : decode cX5_copyFrom 5 = .ok (.getfield 12, 3) := by decide +kernel
theorem dX5_copyFrom_8 : decode cX5_copyFrom 8 = .ok (.invokevirtual 67, 3) := by decide +kernel
theorem dX5_copyFrom_11 : decode cX5_copyFrom 11 = .ok (.aload_n 0, 1) := by decide +kernel
theorem dX5_copyFrom_12 : decode cX5_copyFrom 12 = .ok (.aload_n 1, 1) := by decide +kernel
theorem dX5_copyFrom_13 : decode cX5_copyFrom 13 = .ok (.getfield 49, 3) := by decide +kernel
theorem dX5_copyFrom_16 : decode cX5_copyFrom 16 = .ok (.putfield 49, 3) := by decide +kernel
theorem dX5_copyFrom_19 : decode cX5_copyFrom 19 = .ok (.aload_n 0, 1) := by decide +kernel
theorem dX5_copyFrom_20 : decode cX5_copyFrom 20 = .ok (.aload_n 1, 1) := by decide +kernel
theorem dX5_copyFrom_21 : decode cX5_copyFrom 21 = .ok (.getfield 52, 3) := by decide +kernel
theorem dX5_copyFrom_24 : decode cX5_copyFrom 24 = .ok (.putfield 52, 3) := by decide +kernel
theorem dX5_copyFrom_27 : decode cX5_copyFrom 27 = .ok (.aload_n 0, 1) := by decide +kernel
theorem dX5_copyFrom_28 : decode cX5_copyFrom 28 = .ok (.aload_n 1, 1) := by decide +kernel
theorem dX5_copyFrom_29 : decode cX5_copyFrom 29 = .ok (.getfield 55, 3) := by decide +kernel
theorem dX5_copyFrom_32 : decode cX5_copyFrom 32 = .ok (.putfield 55, 3) := by decide +kernel
theorem dX5_copyFrom_35 : decode cX5_copyFrom 35 = .ok (.aload_n 0, 1) := by decide +kernel
theorem dX5_copyFrom_36 : decode cX5_copyFrom 36 = .ok (.aload_n 1, 1) := by decide +kernel
theorem dX5_copyFrom_37 : decode cX5_copyFrom 37 = .ok (.getfield 58, 3) := by decide +kernel
theorem dX5_copyFrom_40 : decode cX5_copyFrom 40 = .ok (.putfield 58, 3) := by decide +kernel
theorem dX5_copyFrom_43 : decode cX5_copyFrom 43 = .ok (.aload_n 0, 1) := by decide +kernel
theorem dX5_copyFrom_44 : decode cX5_copyFrom 44 = .ok (.aload_n 1, 1) := by decide +kernel
theorem dX5_copyFrom_45 : decode cX5_copyFrom 45 = .ok (.getfield 61, 3) := by decide +kernel
theorem dX5_copyFrom_48 : decode cX5_copyFrom 48 = .ok (.putfield 61, 3) := by decide +kernel
theorem dX5_copyFrom_51 : decode cX5_copyFrom 51 = .ok (.aload_n 0, 1) := by decide +kernel
theorem dX5_copyFrom_52 : decode cX5_copyFrom 52 = .ok (.aload_n 1, 1) := by decide +kernel
theorem dX5_copyFrom_53 : decode cX5_copyFrom 53 = .ok (.getfield 64, 3) := by decide +kernel
theorem dX5_copyFrom_56 : decode cX5_copyFrom 56 = .ok (.putfield 64, 3) := by decide +kernel
theorem dX5_copyFrom_59 : decode cX5_copyFrom 59 = .ok (.aload_n 1, 1) := by decide +kernel
theorem dX5_copyFrom_60 : decode cX5_copyFrom 60 = .ok (.getfield 18, 3) := by decide +kernel
theorem dX5_copyFrom_63 : decode cX5_copyFrom 63 = .ok (.aload_n 0, 1) := by decide +kernel
theorem dX5_copyFrom_64 : decode cX5_copyFrom 64 = .ok (.getfield 18, 3) := by decide +kernel
theorem dX5_copyFrom_67 : decode cX5_copyFrom 67 = .ok (.invokestatic 71, 3) := by decide +kernel
theorem dX5_copyFrom_70 : decode cX5_copyFrom 70 = .ok (.aload_n 1, 1) := by decide +kernel
theorem dX5_copyFrom_71 : decode cX5_copyFrom 71 = .ok (.getfield 22, 3) := by decide +kernel
theorem dX5_copyFrom_74 : decode cX5_copyFrom 74 = .ok (.aload_n 0, 1) := by decide +kernel
theorem dX5_copyFrom_75 : decode cX5_copyFrom 75 = .ok (.getfield 22, 3) := by decide +kernel
theorem dX5_copyFrom_78 : decode cX5_copyFrom 78 = .ok (.invokestatic 71, 3) := by decide +kernel
theorem dX5_copyFrom_81 : decode cX5_copyFrom 81 = .ok (.aload_n 1, 1) := by decide +kernel
theorem dX5_copyFrom_82 : decode cX5_copyFrom 82 = .ok (.getfield 25, 3) := by decide +kernel
theorem dX5_copyFrom_85 : decode cX5_copyFrom 85 = .ok (.aload_n 0, 1) := by decide +kernel
theorem dX5_copyFrom_86 : decode cX5_copyFrom 86 = .ok (.getfield 25, 3) := by decide +kernel
theorem dX5_copyFrom_89 : decode cX5_copyFrom 89 = .ok (.invokestatic 71, 3) := by decide +kernel
theorem dX5_copyFrom_92 : decode cX5_copyFrom 92 = .ok (.aload_n 1, 1) := by decide +kernel
theorem dX5_copyFrom_93 : decode cX5_copyFrom 93 = .ok (.getfield 28, 3) := by decide +kernel
theorem dX5_copyFrom_96 : decode cX5_copyFrom 96 = .ok (.aload_n 0, 1) := by decide +kernel
theorem dX5_copyFrom_97 : decode cX5_copyFrom 97 = .ok (.getfield 28, 3) := by decide +kernel
theorem dX5_copyFrom_100 : decode cX5_copyFrom 100 = .ok (.invokestatic 71, 3) := by decide +kernel
theorem dX5_copyFrom_103 : decode cX5_copyFrom 103 = .ok (.aload_n 1, 1) := by decide +kernel
theorem dX5_copyFrom_104 : decode cX5_copyFrom 104 = .ok (.getfield 31, 3) := by decide +kernel
theorem dX5_copyFrom_107 : decode cX5_copyFrom 107 = .ok (.aload_n 0, 1) := by decide +kernel
theorem dX5_copyFrom_108 : decode cX5_copyFrom 108 = .ok (.getfield 31, 3) := by decide +kernel
theorem dX5_copyFrom_111 : decode cX5_copyFrom 111 = .ok (.invokestatic 71, 3) := by decide +kernel
theorem dX5_copyFrom_114 : decode cX5_copyFrom 114 = .ok (.aload_n 1, 1) := by decide +kernel
theorem dX5_copyFrom_115 : decode cX5_copyFrom 115 = .ok (.getfield 34, 3) := by decide +kernel
theorem dX5_copyFrom_118 : decode cX5_copyFrom 118 = .ok (.aload_n 0, 1) := by decide +kernel
theorem dX5_copyFrom_119 : decode cX5_copyFrom 119 = .ok (.getfield 34, 3) := by decide +kernel
theorem dX5_copyFrom_122 : decode cX5_copyFrom 122 = .ok (.invokestatic 71, 3) := by decide +kernel
theorem dX5_copyFrom_125 : decode cX5_copyFrom 125 = .ok (.return_, 1) := by decide +kernel
def fX5_copyFrom (p : Pl) (p2 : Pl)  : Pl := (bnd (fX0_takeAll p p2 ) (fun r4 => (bnd (upR (upS (upS (upS (upS (upS (upS r4 3 (p2.1 3)) 4 (p2.1 4)) 5 (p2.1 5)) 6 (p2.1 6)) 7 (p2.1 7)) 8 (p2.1 8)) 8 (fX6_copyRow 14 (p2.2 8) 14 (r4.2 8))) (fun r34 => (bnd (upR (upR (upR r34 9 (fX6_copyRow 14 (p2.2 9) 14 (r34.2 9))) 10 (fX6_copyRow 14 (p2.2 10) 14 (r34.2 10))) 11 (fX6_copyRow 14 (p2.2 11) 14 (r34.2 11))) (fun r55 => (upR (upR r55 12 (fX6_copyRow 14 (p2.2 12) 14 (r55.2 12))) 13 (fX6_copyRow 14 (p2.2 13) 14 (r55.2 13)))))))))
set_option maxRecDepth 20000 in
theorem ctX5_copyFrom {l : Launch} {G : GM} {b : Nat} {h0 : List va_E} {p : Pl} (hp : PlantAt G h0 b p) {b2 : Nat} {p2 : Pl} (hp2 : PlantAt G h0 b2 p2) (hd : b + 16 ≤ b2 ∨ b2 + 16 ≤ b)  : Ct l G mX5_copyFrom 3 0 0 [.ref (gz G + b), .ref (gz G + b2)] h0 (fun v h1 => ∃ r, (fX5_copyFrom p p2 ) = r ∧ v = none ∧ PlantAt G h1 b r ∧ Fr (fun a => b ≤ a ∧ a < b + 16) h0 h1) := by
  show Tr l G mX5_copyFrom 3 0 0 0 [(0, .ref (gz G + b)), (1, .ref (gz G + b2))] [] h0 _
  have f0 : Fr (fun a => b ≤ a ∧ a < b + 16) h0 h0 := Fr.rf
  refine am_aload_n dX5_copyFrom_0 0 rfl ?_
  refine am_get (v := .ref (gz G + (b + 1))) dX5_copyFrom_1 kGX5_12 (pl_0 (p := p) hp) rfl ?_
  refine am_aload_n dX5_copyFrom_4 1 rfl ?_
  refine am_get (v := .ref (gz G + (b2 + 1))) dX5_copyFrom_5 kGX5_12 (pl_0 (p := p2) hp2) rfl ?_
  refine am_callV (As := [.ref (gz G + (b2 + 1))]) (rest := []) dX5_copyFrom_8 kMX5_67 rfl (pl_1 (p := p) hp) rfl rfl (Nat.le_of_ble_eq_true rfl) (d2 := 2) (by decide) (k2 := 0) (Nat.zero_le _) (u2 := 0) (Nat.zero_le _) (Nat.le_of_ble_eq_true rfl) (ctX0_takeAll (p := p) hp (p2 := p2) hp2 hd ) (fun v1 h2 q3 => ?_)
  obtain ⟨r4, e5, rfl, w6, w7⟩ := q3
  have w8 := PlantAt.fr hp2 w7 (fun k hk z => by omega)
  have w9 := Fr.trans f0 w7 (fun _ z => z)
  refine am_aload_n dX5_copyFrom_11 0 rfl ?_
  refine am_aload_n dX5_copyFrom_12 1 rfl ?_
  refine am_get (v := .int (p2.1 3)) dX5_copyFrom_13 kGX5_49 (pl_0 (p := p2) w8) rfl ?_
  refine am_put dX5_copyFrom_16 kFX5_49 (pl_0 (p := r4) w6) (Nat.le_of_ble_eq_true rfl) rfl rfl ?_
  have w11 := PlantAt.keep w8 (a := b) (c := .inr (6, [.ref (gz G + (b + 1)), .int (p2.1 3), .int (r4.1 4), .int (r4.1 5), .int (r4.1 6), .int (r4.1 7), .int (r4.1 8), .ref (gz G + (b + 10)), .ref (gz G + (b + 11)), .ref (gz G + (b + 12)), .ref (gz G + (b + 13)), .ref (gz G + (b + 14)), .ref (gz G + (b + 15))])) (by omega)
  have w10 := pl_s3 w6 (p2.1 3)
  have w12 := Fr.set w9 (a := b) (c := .inr (6, [.ref (gz G + (b + 1)), .int (p2.1 3), .int (r4.1 4), .int (r4.1 5), .int (r4.1 6), .int (r4.1 7), .int (r4.1 8), .ref (gz G + (b + 10)), .ref (gz G + (b + 11)), .ref (gz G + (b + 12)), .ref (gz G + (b + 13)), .ref (gz G + (b + 14)), .ref (gz G + (b + 15))])) (by show b ≤ b ∧ b < b + 16; omega)
  refine am_aload_n dX5_copyFrom_19 0 rfl ?_
  refine am_aload_n dX5_copyFrom_20 1 rfl ?_
  refine am_get (v := .int (p2.1 4)) dX5_copyFrom_21 kGX5_52 (pl_0 (p := p2) w11) rfl ?_
  refine am_put dX5_copyFrom_24 kFX5_52 (pl_0 (p := (upS r4 3 (p2.1 3))) w10) (Nat.le_of_ble_eq_true rfl) rfl rfl ?_
  have w14 := PlantAt.keep w11 (a := b) (c := .inr (6, [.ref (gz G + (b + 1)), .int (p2.1 3), .int (p2.1 4), .int (r4.1 5), .int (r4.1 6), .int (r4.1 7), .int (r4.1 8), .ref (gz G + (b + 10)), .ref (gz G + (b + 11)), .ref (gz G + (b + 12)), .ref (gz G + (b + 13)), .ref (gz G + (b + 14)), .ref (gz G + (b + 15))])) (by omega)
  have w13 := pl_s4 w10 (p2.1 4)
  have w15 := Fr.set w12 (a := b) (c := .inr (6, [.ref (gz G + (b + 1)), .int (p2.1 3), .int (p2.1 4), .int (r4.1 5), .int (r4.1 6), .int (r4.1 7), .int (r4.1 8), .ref (gz G + (b + 10)), .ref (gz G + (b + 11)), .ref (gz G + (b + 12)), .ref (gz G + (b + 13)), .ref (gz G + (b + 14)), .ref (gz G + (b + 15))])) (by show b ≤ b ∧ b < b + 16; omega)
  refine am_aload_n dX5_copyFrom_27 0 rfl ?_
  refine am_aload_n dX5_copyFrom_28 1 rfl ?_
  refine am_get (v := .int (p2.1 5)) dX5_copyFrom_29 kGX5_55 (pl_0 (p := p2) w14) rfl ?_
  refine am_put dX5_copyFrom_32 kFX5_55 (pl_0 (p := (upS (upS r4 3 (p2.1 3)) 4 (p2.1 4))) w13) (Nat.le_of_ble_eq_true rfl) rfl rfl ?_
  have w17 := PlantAt.keep w14 (a := b) (c := .inr (6, [.ref (gz G + (b + 1)), .int (p2.1 3), .int (p2.1 4), .int (p2.1 5), .int (r4.1 6), .int (r4.1 7), .int (r4.1 8), .ref (gz G + (b + 10)), .ref (gz G + (b + 11)), .ref (gz G + (b + 12)), .ref (gz G + (b + 13)), .ref (gz G + (b + 14)), .ref (gz G + (b + 15))])) (by omega)
  have w16 := pl_s5 w13 (p2.1 5)
  have w18 := Fr.set w15 (a := b) (c := .inr (6, [.ref (gz G + (b + 1)), .int (p2.1 3), .int (p2.1 4), .int (p2.1 5), .int (r4.1 6), .int (r4.1 7), .int (r4.1 8), .ref (gz G + (b + 10)), .ref (gz G + (b + 11)), .ref (gz G + (b + 12)), .ref (gz G + (b + 13)), .ref (gz G + (b + 14)), .ref (gz G + (b + 15))])) (by show b ≤ b ∧ b < b + 16; omega)
  refine am_aload_n dX5_copyFrom_35 0 rfl ?_
  refine am_aload_n dX5_copyFrom_36 1 rfl ?_
  refine am_get (v := .int (p2.1 6)) dX5_copyFrom_37 kGX5_58 (pl_0 (p := p2) w17) rfl ?_
  refine am_put dX5_copyFrom_40 kFX5_58 (pl_0 (p := (upS (upS (upS r4 3 (p2.1 3)) 4 (p2.1 4)) 5 (p2.1 5))) w16) (Nat.le_of_ble_eq_true rfl) rfl rfl ?_
  have w20 := PlantAt.keep w17 (a := b) (c := .inr (6, [.ref (gz G + (b + 1)), .int (p2.1 3), .int (p2.1 4), .int (p2.1 5), .int (p2.1 6), .int (r4.1 7), .int (r4.1 8), .ref (gz G + (b + 10)), .ref (gz G + (b + 11)), .ref (gz G + (b + 12)), .ref (gz G + (b + 13)), .ref (gz G + (b + 14)), .ref (gz G + (b + 15))])) (by omega)
  have w19 := pl_s6 w16 (p2.1 6)
  have w21 := Fr.set w18 (a := b) (c := .inr (6, [.ref (gz G + (b + 1)), .int (p2.1 3), .int (p2.1 4), .int (p2.1 5), .int (p2.1 6), .int (r4.1 7), .int (r4.1 8), .ref (gz G + (b + 10)), .ref (gz G + (b + 11)), .ref (gz G + (b + 12)), .ref (gz G + (b + 13)), .ref (gz G + (b + 14)), .ref (gz G + (b + 15))])) (by show b ≤ b ∧ b < b + 16; omega)
  refine am_aload_n dX5_copyFrom_43 0 rfl ?_
  refine am_aload_n dX5_copyFrom_44 1 rfl ?_
  refine am_get (v := .int (p2.1 7)) dX5_copyFrom_45 kGX5_61 (pl_0 (p := p2) w20) rfl ?_
  refine am_put dX5_copyFrom_48 kFX5_61 (pl_0 (p := (upS (upS (upS (upS r4 3 (p2.1 3)) 4 (p2.1 4)) 5 (p2.1 5)) 6 (p2.1 6))) w19) (Nat.le_of_ble_eq_true rfl) rfl rfl ?_
  have w23 := PlantAt.keep w20 (a := b) (c := .inr (6, [.ref (gz G + (b + 1)), .int (p2.1 3), .int (p2.1 4), .int (p2.1 5), .int (p2.1 6), .int (p2.1 7), .int (r4.1 8), .ref (gz G + (b + 10)), .ref (gz G + (b + 11)), .ref (gz G + (b + 12)), .ref (gz G + (b + 13)), .ref (gz G + (b + 14)), .ref (gz G + (b + 15))])) (by omega)
  have w22 := pl_s7 w19 (p2.1 7)
  have w24 := Fr.set w21 (a := b) (c := .inr (6, [.ref (gz G + (b + 1)), .int (p2.1 3), .int (p2.1 4), .int (p2.1 5), .int (p2.1 6), .int (p2.1 7), .int (r4.1 8), .ref (gz G + (b + 10)), .ref (gz G + (b + 11)), .ref (gz G + (b + 12)), .ref (gz G + (b + 13)), .ref (gz G + (b + 14)), .ref (gz G + (b + 15))])) (by show b ≤ b ∧ b < b + 16; omega)
  refine am_aload_n dX5_copyFrom_51 0 rfl ?_
  refine am_aload_n dX5_copyFrom_52 1 rfl ?_
  refine am_get (v := .int (p2.1 8)) dX5_copyFrom_53 kGX5_64 (pl_0 (p := p2) w23) rfl ?_
  refine am_put dX5_copyFrom_56 kFX5_64 (pl_0 (p := (upS (upS (upS (upS (upS r4 3 (p2.1 3)) 4 (p2.1 4)) 5 (p2.1 5)) 6 (p2.1 6)) 7 (p2.1 7))) w22) (Nat.le_of_ble_eq_true rfl) rfl rfl ?_
  have w26 := PlantAt.keep w23 (a := b) (c := .inr (6, [.ref (gz G + (b + 1)), .int (p2.1 3), .int (p2.1 4), .int (p2.1 5), .int (p2.1 6), .int (p2.1 7), .int (p2.1 8), .ref (gz G + (b + 10)), .ref (gz G + (b + 11)), .ref (gz G + (b + 12)), .ref (gz G + (b + 13)), .ref (gz G + (b + 14)), .ref (gz G + (b + 15))])) (by omega)
  have w25 := pl_s8 w22 (p2.1 8)
  have w27 := Fr.set w24 (a := b) (c := .inr (6, [.ref (gz G + (b + 1)), .int (p2.1 3), .int (p2.1 4), .int (p2.1 5), .int (p2.1 6), .int (p2.1 7), .int (p2.1 8), .ref (gz G + (b + 10)), .ref (gz G + (b + 11)), .ref (gz G + (b + 12)), .ref (gz G + (b + 13)), .ref (gz G + (b + 14)), .ref (gz G + (b + 15))])) (by show b ≤ b ∧ b < b + 16; omega)
  refine am_aload_n dX5_copyFrom_59 1 rfl ?_
  refine am_get (v := .ref (gz G + (b2 + 10))) dX5_copyFrom_60 kGX5_18 (pl_0 (p := p2) w26) rfl ?_
  refine am_aload_n dX5_copyFrom_63 0 rfl ?_
  refine am_get (v := .ref (gz G + (b + 10))) dX5_copyFrom_64 kGX5_18 (pl_0 (p := (upS (upS (upS (upS (upS (upS r4 3 (p2.1 3)) 4 (p2.1 4)) 5 (p2.1 5)) 6 (p2.1 6)) 7 (p2.1 7)) 8 (p2.1 8))) w25) rfl ?_
  refine am_callSN (As := [.ref (gz G + (b2 + 10)), .ref (gz G + (b + 10))]) (rest := []) dX5_copyFrom_67 kMX5_71 rfl  rfl (Nat.le_of_ble_eq_true rfl) (d2 := 1) (by decide) (k2 := 0) (Nat.zero_le _) (u2 := 0) (Nat.zero_le _) (Nat.le_of_ble_eq_true rfl) (ctX6_copyRow (f := (p2.2 8)) (f2 := (r4.2 8)) (pl_r8 (p := p2) w26) (by decide) (pl_r8 (p := (upS (upS (upS (upS (upS (upS r4 3 (p2.1 3)) 4 (p2.1 4)) 5 (p2.1 5)) 6 (p2.1 6)) 7 (p2.1 7)) 8 (p2.1 8))) w25) (by decide) (by omega)) (fun v28 h29 q30 => ?_)
  obtain ⟨rfl, rfl⟩ := q30
  have w32 := PlantAt.keep w26 (a := (b + 10)) (c := .inl (0, 14, .inl (fX6_copyRow 14 (p2.2 8) 14 (r4.2 8)))) (by omega)
  have w31 := pl_u8 w25 (fX6_copyRow 14 (p2.2 8) 14 (r4.2 8))
  have w33 := Fr.set w27 (a := (b + 10)) (c := .inl (0, 14, .inl (fX6_copyRow 14 (p2.2 8) 14 (r4.2 8)))) (by show b ≤ (b + 10) ∧ (b + 10) < b + 16; omega)
  obtain ⟨r34, e35⟩ : ∃ x, (upR (upS (upS (upS (upS (upS (upS r4 3 (p2.1 3)) 4 (p2.1 4)) 5 (p2.1 5)) 6 (p2.1 6)) 7 (p2.1 7)) 8 (p2.1 8)) 8 (fX6_copyRow 14 (p2.2 8) 14 (r4.2 8))) = x := ⟨_, rfl⟩
  have w36 := pl_eq e35 w31
  refine am_aload_n dX5_copyFrom_70 1 rfl ?_
  refine am_get (v := .ref (gz G + (b2 + 11))) dX5_copyFrom_71 kGX5_22 (pl_0 (p := p2) w32) rfl ?_
  refine am_aload_n dX5_copyFrom_74 0 rfl ?_
  refine am_get (v := .ref (gz G + (b + 11))) dX5_copyFrom_75 kGX5_22 (pl_0 (p := r34) w36) rfl ?_
  refine am_callSN (As := [.ref (gz G + (b2 + 11)), .ref (gz G + (b + 11))]) (rest := []) dX5_copyFrom_78 kMX5_71 rfl  rfl (Nat.le_of_ble_eq_true rfl) (d2 := 1) (by decide) (k2 := 0) (Nat.zero_le _) (u2 := 0) (Nat.zero_le _) (Nat.le_of_ble_eq_true rfl) (ctX6_copyRow (f := (p2.2 9)) (f2 := (r34.2 9)) (pl_r9 (p := p2) w32) (by decide) (pl_r9 (p := r34) w36) (by decide) (by omega)) (fun v37 h38 q39 => ?_)
  obtain ⟨rfl, rfl⟩ := q39
  have w41 := PlantAt.keep w32 (a := (b + 11)) (c := .inl (0, 14, .inl (fX6_copyRow 14 (p2.2 9) 14 (r34.2 9)))) (by omega)
  have w40 := pl_u9 w36 (fX6_copyRow 14 (p2.2 9) 14 (r34.2 9))
  have w42 := Fr.set w33 (a := (b + 11)) (c := .inl (0, 14, .inl (fX6_copyRow 14 (p2.2 9) 14 (r34.2 9)))) (by show b ≤ (b + 11) ∧ (b + 11) < b + 16; omega)
  refine am_aload_n dX5_copyFrom_81 1 rfl ?_
  refine am_get (v := .ref (gz G + (b2 + 12))) dX5_copyFrom_82 kGX5_25 (pl_0 (p := p2) w41) rfl ?_
  refine am_aload_n dX5_copyFrom_85 0 rfl ?_
  refine am_get (v := .ref (gz G + (b + 12))) dX5_copyFrom_86 kGX5_25 (pl_0 (p := (upR r34 9 (fX6_copyRow 14 (p2.2 9) 14 (r34.2 9)))) w40) rfl ?_
  refine am_callSN (As := [.ref (gz G + (b2 + 12)), .ref (gz G + (b + 12))]) (rest := []) dX5_copyFrom_89 kMX5_71 rfl  rfl (Nat.le_of_ble_eq_true rfl) (d2 := 1) (by decide) (k2 := 0) (Nat.zero_le _) (u2 := 0) (Nat.zero_le _) (Nat.le_of_ble_eq_true rfl) (ctX6_copyRow (f := (p2.2 10)) (f2 := (r34.2 10)) (pl_r10 (p := p2) w41) (by decide) (pl_r10 (p := (upR r34 9 (fX6_copyRow 14 (p2.2 9) 14 (r34.2 9)))) w40) (by decide) (by omega)) (fun v43 h44 q45 => ?_)
  obtain ⟨rfl, rfl⟩ := q45
  have w47 := PlantAt.keep w41 (a := (b + 12)) (c := .inl (0, 14, .inl (fX6_copyRow 14 (p2.2 10) 14 (r34.2 10)))) (by omega)
  have w46 := pl_u10 w40 (fX6_copyRow 14 (p2.2 10) 14 (r34.2 10))
  have w48 := Fr.set w42 (a := (b + 12)) (c := .inl (0, 14, .inl (fX6_copyRow 14 (p2.2 10) 14 (r34.2 10)))) (by show b ≤ (b + 12) ∧ (b + 12) < b + 16; omega)
  refine am_aload_n dX5_copyFrom_92 1 rfl ?_
  refine am_get (v := .ref (gz G + (b2 + 13))) dX5_copyFrom_93 kGX5_28 (pl_0 (p := p2) w47) rfl ?_
  refine am_aload_n dX5_copyFrom_96 0 rfl ?_
  refine am_get (v := .ref (gz G + (b + 13))) dX5_copyFrom_97 kGX5_28 (pl_0 (p := (upR (upR r34 9 (fX6_copyRow 14 (p2.2 9) 14 (r34.2 9))) 10 (fX6_copyRow 14 (p2.2 10) 14 (r34.2 10)))) w46) rfl ?_
  refine am_callSN (As := [.ref (gz G + (b2 + 13)), .ref (gz G + (b + 13))]) (rest := []) dX5_copyFrom_100 kMX5_71 rfl  rfl (Nat.le_of_ble_eq_true rfl) (d2 := 1) (by decide) (k2 := 0) (Nat.zero_le _) (u2 := 0) (Nat.zero_le _) (Nat.le_of_ble_eq_true rfl) (ctX6_copyRow (f := (p2.2 11)) (f2 := (r34.2 11)) (pl_r11 (p := p2) w47) (by decide) (pl_r11 (p := (upR (upR r34 9 (fX6_copyRow 14 (p2.2 9) 14 (r34.2 9))) 10 (fX6_copyRow 14 (p2.2 10) 14 (r34.2 10)))) w46) (by decide) (by omega)) (fun v49 h50 q51 => ?_)
  obtain ⟨rfl, rfl⟩ := q51
  have w53 := PlantAt.keep w47 (a := (b + 13)) (c := .inl (0, 14, .inl (fX6_copyRow 14 (p2.2 11) 14 (r34.2 11)))) (by omega)
  have w52 := pl_u11 w46 (fX6_copyRow 14 (p2.2 11) 14 (r34.2 11))
  have w54 := Fr.set w48 (a := (b + 13)) (c := .inl (0, 14, .inl (fX6_copyRow 14 (p2.2 11) 14 (r34.2 11)))) (by show b ≤ (b + 13) ∧ (b + 13) < b + 16; omega)
  obtain ⟨r55, e56⟩ : ∃ x, (upR (upR (upR r34 9 (fX6_copyRow 14 (p2.2 9) 14 (r34.2 9))) 10 (fX6_copyRow 14 (p2.2 10) 14 (r34.2 10))) 11 (fX6_copyRow 14 (p2.2 11) 14 (r34.2 11))) = x := ⟨_, rfl⟩
  have w57 := pl_eq e56 w52
  refine am_aload_n dX5_copyFrom_103 1 rfl ?_
  refine am_get (v := .ref (gz G + (b2 + 14))) dX5_copyFrom_104 kGX5_31 (pl_0 (p := p2) w53) rfl ?_
  refine am_aload_n dX5_copyFrom_107 0 rfl ?_
  refine am_get (v := .ref (gz G + (b + 14))) dX5_copyFrom_108 kGX5_31 (pl_0 (p := r55) w57) rfl ?_
  refine am_callSN (As := [.ref (gz G + (b2 + 14)), .ref (gz G + (b + 14))]) (rest := []) dX5_copyFrom_111 kMX5_71 rfl  rfl (Nat.le_of_ble_eq_true rfl) (d2 := 1) (by decide) (k2 := 0) (Nat.zero_le _) (u2 := 0) (Nat.zero_le _) (Nat.le_of_ble_eq_true rfl) (ctX6_copyRow (f := (p2.2 12)) (f2 := (r55.2 12)) (pl_r12 (p := p2) w53) (by decide) (pl_r12 (p := r55) w57) (by decide) (by omega)) (fun v58 h59 q60 => ?_)
  obtain ⟨rfl, rfl⟩ := q60
  have w62 := PlantAt.keep w53 (a := (b + 14)) (c := .inl (0, 14, .inl (fX6_copyRow 14 (p2.2 12) 14 (r55.2 12)))) (by omega)
  have w61 := pl_u12 w57 (fX6_copyRow 14 (p2.2 12) 14 (r55.2 12))
  have w63 := Fr.set w54 (a := (b + 14)) (c := .inl (0, 14, .inl (fX6_copyRow 14 (p2.2 12) 14 (r55.2 12)))) (by show b ≤ (b + 14) ∧ (b + 14) < b + 16; omega)
  refine am_aload_n dX5_copyFrom_114 1 rfl ?_
  refine am_get (v := .ref (gz G + (b2 + 15))) dX5_copyFrom_115 kGX5_34 (pl_0 (p := p2) w62) rfl ?_
  refine am_aload_n dX5_copyFrom_118 0 rfl ?_
  refine am_get (v := .ref (gz G + (b + 15))) dX5_copyFrom_119 kGX5_34 (pl_0 (p := (upR r55 12 (fX6_copyRow 14 (p2.2 12) 14 (r55.2 12)))) w61) rfl ?_
  refine am_callSN (As := [.ref (gz G + (b2 + 15)), .ref (gz G + (b + 15))]) (rest := []) dX5_copyFrom_122 kMX5_71 rfl  rfl (Nat.le_of_ble_eq_true rfl) (d2 := 1) (by decide) (k2 := 0) (Nat.zero_le _) (u2 := 0) (Nat.zero_le _) (Nat.le_of_ble_eq_true rfl) (ctX6_copyRow (f := (p2.2 13)) (f2 := (r55.2 13)) (pl_r13 (p := p2) w62) (by decide) (pl_r13 (p := (upR r55 12 (fX6_copyRow 14 (p2.2 12) 14 (r55.2 12)))) w61) (by decide) (by omega)) (fun v64 h65 q66 => ?_)
  obtain ⟨rfl, rfl⟩ := q66
  have w68 := PlantAt.keep w62 (a := (b + 15)) (c := .inl (0, 14, .inl (fX6_copyRow 14 (p2.2 13) 14 (r55.2 13)))) (by omega)
  have w67 := pl_u13 w61 (fX6_copyRow 14 (p2.2 13) 14 (r55.2 13))
  have w69 := Fr.set w63 (a := (b + 15)) (c := .inl (0, 14, .inl (fX6_copyRow 14 (p2.2 13) 14 (r55.2 13)))) (by show b ≤ (b + 15) ∧ (b + 15) < b + 16; omega)
  exact am_return dX5_copyFrom_125 rfl ⟨_, bnd_eq e5 (bnd_eq e35 (bnd_eq e56 (rfl))), rfl, w67, w69⟩

theorem dX5_makeEmpty_0 : decode cX5_makeEmpty 0 = .ok (.aload_n 0, 1) := by decide +kernel
theorem dX5_makeEmpty_1 : decode cX5_makeEmpty 1 = .ok (.getfield 12, 3) := by decide +kernel
theorem dX5_makeEmpty_4 : decode cX5_makeEmpty 4 = .ok (.iconst 0, 1) := by decide +kernel
theorem dX5_makeEmpty_5 : decode cX5_makeEmpty 5 = .ok (.putfield 40, 3) := by decide +kernel
theorem dX5_makeEmpty_8 : decode cX5_makeEmpty 8 = .ok (.aload_n 0, 1) := by decide +kernel
theorem dX5_makeEmpty_9 : decode cX5_makeEmpty 9 = .ok (.getfield 12, 3) := by decide +kernel
theorem dX5_makeEmpty_12 : decode cX5_makeEmpty 12 = .ok (.iconst 0, 1) := by decide +kernel
theorem dX5_makeEmpty_13 : decode cX5_makeEmpty 13 = .ok (.putfield 43, 3) := by decide +kernel
theorem dX5_makeEmpty_16 : decode cX5_makeEmpty 16 = .ok (.aload_n 0, 1) := by decide +kernel
theorem dX5_makeEmpty_17 : decode cX5_makeEmpty 17 = .ok (.getfield 12, 3) := by decide +kernel
theorem dX5_makeEmpty_20 : decode cX5_makeEmpty 20 = .ok (.iconst 0, 1) := by decide +kernel
theorem dX5_makeEmpty_21 : decode cX5_makeEmpty 21 = .ok (.putfield 46, 3) := by decide +kernel
theorem dX5_makeEmpty_24 : decode cX5_makeEmpty 24 = .ok (.aload_n 0, 1) := by decide +kernel
theorem dX5_makeEmpty_25 : decode cX5_makeEmpty 25 = .ok (.bipush 30, 2) := by decide +kernel
theorem dX5_makeEmpty_27 : decode cX5_makeEmpty 27 = .ok (.putfield 49, 3) := by decide +kernel
theorem dX5_makeEmpty_30 : decode cX5_makeEmpty 30 = .ok (.aload_n 0, 1) := by decide +kernel
theorem dX5_makeEmpty_31 : decode cX5_makeEmpty 31 = .ok (.bipush 6, 2) := by decide +kernel
theorem dX5_makeEmpty_33 : decode cX5_makeEmpty 33 = .ok (.putfield 52, 3) := by decide +kernel
theorem dX5_makeEmpty_36 : decode cX5_makeEmpty 36 = .ok (.aload_n 0, 1) := by decide +kernel
theorem dX5_makeEmpty_37 : decode cX5_makeEmpty 37 = .ok (.bipush 60, 2) := by decide +kernel
theorem dX5_makeEmpty_39 : decode cX5_makeEmpty 39 = .ok (.putfield 55, 3) := by decide +kernel
theorem dX5_makeEmpty_42 : decode cX5_makeEmpty 42 = .ok (.aload_n 0, 1) := by decide +kernel
theorem dX5_makeEmpty_43 : decode cX5_makeEmpty 43 = .ok (.iconst 2, 1) := by decide +kernel
theorem dX5_makeEmpty_44 : decode cX5_makeEmpty 44 = .ok (.putfield 58, 3) := by decide +kernel
theorem dX5_makeEmpty_47 : decode cX5_makeEmpty 47 = .ok (.aload_n 0, 1) := by decide +kernel
theorem dX5_makeEmpty_48 : decode cX5_makeEmpty 48 = .ok (.iconst 0, 1) := by decide +kernel
theorem dX5_makeEmpty_49 : decode cX5_makeEmpty 49 = .ok (.putfield 61, 3) := by decide +kernel
theorem dX5_makeEmpty_52 : decode cX5_makeEmpty 52 = .ok (.aload_n 0, 1) := by decide +kernel
theorem dX5_makeEmpty_53 : decode cX5_makeEmpty 53 = .ok (.iconst 0, 1) := by decide +kernel
theorem dX5_makeEmpty_54 : decode cX5_makeEmpty 54 = .ok (.putfield 64, 3) := by decide +kernel
theorem dX5_makeEmpty_57 : decode cX5_makeEmpty 57 = .ok (.return_, 1) := by decide +kernel
def fX5_makeEmpty (p : Pl)  : Pl := (upS (upS (upS (upS (upS (upS (upS (upS (upS p 0 0) 1 0) 2 0) 3 30) 4 6) 5 60) 6 2) 7 0) 8 0)
set_option maxRecDepth 20000 in
theorem ctX5_makeEmpty {l : Launch} {G : GM} {b : Nat} {h0 : List va_E} {p : Pl} (hp : PlantAt G h0 b p)  : Ct l G mX5_makeEmpty 0 0 0 [.ref (gz G + b)] h0 (fun v h1 => ∃ r, (fX5_makeEmpty p ) = r ∧ v = none ∧ PlantAt G h1 b r ∧ Fr (fun a => b ≤ a ∧ a < b + 16) h0 h1) := by
  show Tr l G mX5_makeEmpty 0 0 0 0 [(0, .ref (gz G + b))] [] h0 _
  have f0 : Fr (fun a => b ≤ a ∧ a < b + 16) h0 h0 := Fr.rf
  refine am_aload_n dX5_makeEmpty_0 0 rfl ?_
  refine am_get (v := .ref (gz G + (b + 1))) dX5_makeEmpty_1 kGX5_12 (pl_0 (p := p) hp) rfl ?_
  refine am_iconst (v := 0) dX5_makeEmpty_4 (by decide) ?_
  refine am_put dX5_makeEmpty_5 kFX5_40 (pl_1 (p := p) hp) (Nat.le_of_ble_eq_true rfl) rfl rfl ?_
  have w1 := pl_s0 hp 0
  have w2 := Fr.set f0 (a := (b + 1)) (c := .inr (1, [.int 0, .int (p.1 1), .int (p.1 2), .ref (gz G + (b + 2)), .ref (gz G + (b + 3)), .ref (gz G + (b + 4)), .ref (gz G + (b + 5)), .ref (gz G + (b + 6)), .ref (gz G + (b + 7)), .ref (gz G + (b + 8)), .ref (gz G + (b + 9))])) (by show b ≤ (b + 1) ∧ (b + 1) < b + 16; omega)
  refine am_aload_n dX5_makeEmpty_8 0 rfl ?_
  refine am_get (v := .ref (gz G + (b + 1))) dX5_makeEmpty_9 kGX5_12 (pl_0 (p := (upS p 0 0)) w1) rfl ?_
  refine am_iconst (v := 0) dX5_makeEmpty_12 (by decide) ?_
  refine am_put dX5_makeEmpty_13 kFX5_43 (pl_1 (p := (upS p 0 0)) w1) (Nat.le_of_ble_eq_true rfl) rfl rfl ?_
  have w3 := pl_s1 w1 0
  have w4 := Fr.set w2 (a := (b + 1)) (c := .inr (1, [.int 0, .int 0, .int (p.1 2), .ref (gz G + (b + 2)), .ref (gz G + (b + 3)), .ref (gz G + (b + 4)), .ref (gz G + (b + 5)), .ref (gz G + (b + 6)), .ref (gz G + (b + 7)), .ref (gz G + (b + 8)), .ref (gz G + (b + 9))])) (by show b ≤ (b + 1) ∧ (b + 1) < b + 16; omega)
  refine am_aload_n dX5_makeEmpty_16 0 rfl ?_
  refine am_get (v := .ref (gz G + (b + 1))) dX5_makeEmpty_17 kGX5_12 (pl_0 (p := (upS (upS p 0 0) 1 0)) w3) rfl ?_
  refine am_iconst (v := 0) dX5_makeEmpty_20 (by decide) ?_
  refine am_put dX5_makeEmpty_21 kFX5_46 (pl_1 (p := (upS (upS p 0 0) 1 0)) w3) (Nat.le_of_ble_eq_true rfl) rfl rfl ?_
  have w5 := pl_s2 w3 0
  have w6 := Fr.set w4 (a := (b + 1)) (c := .inr (1, [.int 0, .int 0, .int 0, .ref (gz G + (b + 2)), .ref (gz G + (b + 3)), .ref (gz G + (b + 4)), .ref (gz G + (b + 5)), .ref (gz G + (b + 6)), .ref (gz G + (b + 7)), .ref (gz G + (b + 8)), .ref (gz G + (b + 9))])) (by show b ≤ (b + 1) ∧ (b + 1) < b + 16; omega)
  refine am_aload_n dX5_makeEmpty_24 0 rfl ?_
  refine am_bipush (v := 30) dX5_makeEmpty_25 (by decide) ?_
  refine am_put dX5_makeEmpty_27 kFX5_49 (pl_0 (p := (upS (upS (upS p 0 0) 1 0) 2 0)) w5) (Nat.le_of_ble_eq_true rfl) rfl rfl ?_
  have w7 := pl_s3 w5 30
  have w8 := Fr.set w6 (a := b) (c := .inr (6, [.ref (gz G + (b + 1)), .int 30, .int (p.1 4), .int (p.1 5), .int (p.1 6), .int (p.1 7), .int (p.1 8), .ref (gz G + (b + 10)), .ref (gz G + (b + 11)), .ref (gz G + (b + 12)), .ref (gz G + (b + 13)), .ref (gz G + (b + 14)), .ref (gz G + (b + 15))])) (by show b ≤ b ∧ b < b + 16; omega)
  refine am_aload_n dX5_makeEmpty_30 0 rfl ?_
  refine am_bipush (v := 6) dX5_makeEmpty_31 (by decide) ?_
  refine am_put dX5_makeEmpty_33 kFX5_52 (pl_0 (p := (upS (upS (upS (upS p 0 0) 1 0) 2 0) 3 30)) w7) (Nat.le_of_ble_eq_true rfl) rfl rfl ?_
  have w9 := pl_s4 w7 6
  have w10 := Fr.set w8 (a := b) (c := .inr (6, [.ref (gz G + (b + 1)), .int 30, .int 6, .int (p.1 5), .int (p.1 6), .int (p.1 7), .int (p.1 8), .ref (gz G + (b + 10)), .ref (gz G + (b + 11)), .ref (gz G + (b + 12)), .ref (gz G + (b + 13)), .ref (gz G + (b + 14)), .ref (gz G + (b + 15))])) (by show b ≤ b ∧ b < b + 16; omega)
  refine am_aload_n dX5_makeEmpty_36 0 rfl ?_
  refine am_bipush (v := 60) dX5_makeEmpty_37 (by decide) ?_
  refine am_put dX5_makeEmpty_39 kFX5_55 (pl_0 (p := (upS (upS (upS (upS (upS p 0 0) 1 0) 2 0) 3 30) 4 6)) w9) (Nat.le_of_ble_eq_true rfl) rfl rfl ?_
  have w11 := pl_s5 w9 60
  have w12 := Fr.set w10 (a := b) (c := .inr (6, [.ref (gz G + (b + 1)), .int 30, .int 6, .int 60, .int (p.1 6), .int (p.1 7), .int (p.1 8), .ref (gz G + (b + 10)), .ref (gz G + (b + 11)), .ref (gz G + (b + 12)), .ref (gz G + (b + 13)), .ref (gz G + (b + 14)), .ref (gz G + (b + 15))])) (by show b ≤ b ∧ b < b + 16; omega)
  refine am_aload_n dX5_makeEmpty_42 0 rfl ?_
  refine am_iconst (v := 2) dX5_makeEmpty_43 (by decide) ?_
  refine am_put dX5_makeEmpty_44 kFX5_58 (pl_0 (p := (upS (upS (upS (upS (upS (upS p 0 0) 1 0) 2 0) 3 30) 4 6) 5 60)) w11) (Nat.le_of_ble_eq_true rfl) rfl rfl ?_
  have w13 := pl_s6 w11 2
  have w14 := Fr.set w12 (a := b) (c := .inr (6, [.ref (gz G + (b + 1)), .int 30, .int 6, .int 60, .int 2, .int (p.1 7), .int (p.1 8), .ref (gz G + (b + 10)), .ref (gz G + (b + 11)), .ref (gz G + (b + 12)), .ref (gz G + (b + 13)), .ref (gz G + (b + 14)), .ref (gz G + (b + 15))])) (by show b ≤ b ∧ b < b + 16; omega)
  refine am_aload_n dX5_makeEmpty_47 0 rfl ?_
  refine am_iconst (v := 0) dX5_makeEmpty_48 (by decide) ?_
  refine am_put dX5_makeEmpty_49 kFX5_61 (pl_0 (p := (upS (upS (upS (upS (upS (upS (upS p 0 0) 1 0) 2 0) 3 30) 4 6) 5 60) 6 2)) w13) (Nat.le_of_ble_eq_true rfl) rfl rfl ?_
  have w15 := pl_s7 w13 0
  have w16 := Fr.set w14 (a := b) (c := .inr (6, [.ref (gz G + (b + 1)), .int 30, .int 6, .int 60, .int 2, .int 0, .int (p.1 8), .ref (gz G + (b + 10)), .ref (gz G + (b + 11)), .ref (gz G + (b + 12)), .ref (gz G + (b + 13)), .ref (gz G + (b + 14)), .ref (gz G + (b + 15))])) (by show b ≤ b ∧ b < b + 16; omega)
  refine am_aload_n dX5_makeEmpty_52 0 rfl ?_
  refine am_iconst (v := 0) dX5_makeEmpty_53 (by decide) ?_
  refine am_put dX5_makeEmpty_54 kFX5_64 (pl_0 (p := (upS (upS (upS (upS (upS (upS (upS (upS p 0 0) 1 0) 2 0) 3 30) 4 6) 5 60) 6 2) 7 0)) w15) (Nat.le_of_ble_eq_true rfl) rfl rfl ?_
  have w17 := pl_s8 w15 0
  have w18 := Fr.set w16 (a := b) (c := .inr (6, [.ref (gz G + (b + 1)), .int 30, .int 6, .int 60, .int 2, .int 0, .int 0, .ref (gz G + (b + 10)), .ref (gz G + (b + 11)), .ref (gz G + (b + 12)), .ref (gz G + (b + 13)), .ref (gz G + (b + 14)), .ref (gz G + (b + 15))])) (by show b ≤ b ∧ b < b + 16; omega)
  exact am_return dX5_makeEmpty_57 rfl ⟨_, rfl, rfl, w17, w18⟩

theorem dX5_addPiece_0 : decode cX5_addPiece 0 = .ok (.aload_n 0, 1) := by decide +kernel
theorem dX5_addPiece_1 : decode cX5_addPiece 1 = .ok (.getfield 64, 3) := by decide +kernel
theorem dX5_addPiece_4 : decode cX5_addPiece 4 = .ok (.bipush 14, 2) := by decide +kernel
theorem dX5_addPiece_6 : decode cX5_addPiece 6 = .ok (.if_icmp .lt 4, 3) := by decide +kernel
theorem dX5_addPiece_9 : decode cX5_addPiece 9 = .ok (.return_, 1) := by decide +kernel
theorem dX5_addPiece_10 : decode cX5_addPiece 10 = .ok (.aload_n 0, 1) := by decide +kernel
theorem dX5_addPiece_11 : decode cX5_addPiece 11 = .ok (.getfield 18, 3) := by decide +kernel
theorem dX5_addPiece_14 : decode cX5_addPiece 14 = .ok (.aload_n 0, 1) := by decide +kernel
theorem dX5_addPiece_15 : decode cX5_addPiece 15 = .ok (.getfield 64, 3) := by decide +kernel
theorem dX5_addPiece_18 : decode cX5_addPiece 18 = .ok (.iload_n 1, 1) := by decide +kernel
theorem dX5_addPiece_19 : decode cX5_addPiece 19 = .ok (.invokestatic 75, 3) := by decide +kernel
theorem dX5_addPiece_22 : decode cX5_addPiece 22 = .ok (.aload_n 0, 1) := by decide +kernel
theorem dX5_addPiece_23 : decode cX5_addPiece 23 = .ok (.getfield 22, 3) := by decide +kernel
theorem dX5_addPiece_26 : decode cX5_addPiece 26 = .ok (.aload_n 0, 1) := by decide +kernel
theorem dX5_addPiece_27 : decode cX5_addPiece 27 = .ok (.getfield 64, 3) := by decide +kernel
theorem dX5_addPiece_30 : decode cX5_addPiece 30 = .ok (.iload_n 2, 1) := by decide +kernel
theorem dX5_addPiece_31 : decode cX5_addPiece 31 = .ok (.invokestatic 75, 3) := by decide +kernel
theorem dX5_addPiece_34 : decode cX5_addPiece 34 = .ok (.aload_n 0, 1) := by decide +kernel
theorem dX5_addPiece_35 : decode cX5_addPiece 35 = .ok (.getfield 25, 3) := by decide +kernel
theorem dX5_addPiece_38 : decode cX5_addPiece 38 = .ok (.aload_n 0, 1) := by decide +kernel
theorem dX5_addPiece_39 : decode cX5_addPiece 39 = .ok (.getfield 64, 3) := by decide +kernel
theorem dX5_addPiece_42 : decode cX5_addPiece 42 = .ok (.iload_n 3, 1) := by decide +kernel
theorem dX5_addPiece_43 : decode cX5_addPiece 43 = .ok (.invokestatic 75, 3) := by decide +kernel
theorem dX5_addPiece_46 : decode cX5_addPiece 46 = .ok (.aload_n 0, 1) := by decide +kernel
theorem dX5_addPiece_47 : decode cX5_addPiece 47 = .ok (.getfield 28, 3) := by decide +kernel
theorem dX5_addPiece_50 : decode cX5_addPiece 50 = .ok (.aload_n 0, 1) := by decide +kernel
theorem dX5_addPiece_51 : decode cX5_addPiece 51 = .ok (.getfield 64, 3) := by decide +kernel
theorem dX5_addPiece_54 : decode cX5_addPiece 54 = .ok (.iload_n 3, 1) := by decide +kernel
theorem dX5_addPiece_55 : decode cX5_addPiece 55 = .ok (.invokestatic 75, 3) := by decide +kernel
theorem dX5_addPiece_58 : decode cX5_addPiece 58 = .ok (.aload_n 0, 1) := by decide +kernel
theorem dX5_addPiece_59 : decode cX5_addPiece 59 = .ok (.getfield 31, 3) := by decide +kernel
theorem dX5_addPiece_62 : decode cX5_addPiece 62 = .ok (.aload_n 0, 1) := by decide +kernel
theorem dX5_addPiece_63 : decode cX5_addPiece 63 = .ok (.getfield 64, 3) := by decide +kernel
theorem dX5_addPiece_66 : decode cX5_addPiece 66 = .ok (.iload 4, 2) := by decide +kernel
theorem dX5_addPiece_68 : decode cX5_addPiece 68 = .ok (.invokestatic 75, 3) := by decide +kernel
theorem dX5_addPiece_71 : decode cX5_addPiece 71 = .ok (.aload_n 0, 1) := by decide +kernel
theorem dX5_addPiece_72 : decode cX5_addPiece 72 = .ok (.getfield 34, 3) := by decide +kernel
theorem dX5_addPiece_75 : decode cX5_addPiece 75 = .ok (.aload_n 0, 1) := by decide +kernel
theorem dX5_addPiece_76 : decode cX5_addPiece 76 = .ok (.getfield 64, 3) := by decide +kernel
theorem dX5_addPiece_79 : decode cX5_addPiece 79 = .ok (.iconst 0, 1) := by decide +kernel
theorem dX5_addPiece_80 : decode cX5_addPiece 80 = .ok (.invokestatic 75, 3) := by decide +kernel
theorem dX5_addPiece_83 : decode cX5_addPiece 83 = .ok (.aload_n 0, 1) := by decide +kernel
theorem dX5_addPiece_84 : decode cX5_addPiece 84 = .ok (.dup, 1) := by decide +kernel
theorem dX5_addPiece_85 : decode cX5_addPiece 85 = .ok (.getfield 64, 3) := by decide +kernel
theorem dX5_addPiece_88 : decode cX5_addPiece 88 = .ok (.iconst 1, 1) := by decide +kernel
theorem dX5_addPiece_89 : decode cX5_addPiece 89 = .ok (.iadd, 1) := by decide +kernel
theorem dX5_addPiece_90 : decode cX5_addPiece 90 = .ok (.putfield 64, 3) := by decide +kernel
theorem dX5_addPiece_93 : decode cX5_addPiece 93 = .ok (.return_, 1) := by decide +kernel
def fX5_addPiece (p : Pl) (z1 : Int32) (z2 : Int32) (z3 : Int32) (z4 : Int32) : Pl := (if (p.1 8) < 14 then (bnd (upR (upR (upR p 8 (fX6_put 14 (p.2 8) (p.1 8) z1)) 9 (fX6_put 14 (p.2 9) (p.1 8) z2)) 10 (fX6_put 14 (p.2 10) (p.1 8) z3)) (fun r17 => (bnd (upR (upR (upR r17 11 (fX6_put 14 (r17.2 11) (r17.1 8) z3)) 12 (fX6_put 14 (r17.2 12) (r17.1 8) z4)) 13 (fX6_put 14 (r17.2 13) (r17.1 8) 0)) (fun r35 => (upS r35 8 ((r35.1 8) + 1)))))) else p)
set_option maxRecDepth 20000 in
theorem ctX5_addPiece {l : Launch} {G : GM} {b : Nat} {h0 : List va_E} {p : Pl} (hp : PlantAt G h0 b p) (z1 : Int32) (z2 : Int32) (z3 : Int32) (z4 : Int32) : Ct l G mX5_addPiece 1 0 0 [.ref (gz G + b), .int z1, .int z2, .int z3, .int z4] h0 (fun v h1 => ∃ r, (fX5_addPiece p z1 z2 z3 z4) = r ∧ v = none ∧ PlantAt G h1 b r ∧ Fr (fun a => b ≤ a ∧ a < b + 16) h0 h1) := by
  show Tr l G mX5_addPiece 1 0 0 0 [(0, .ref (gz G + b)), (1, .int z1), (2, .int z2), (3, .int z3), (4, .int z4)] [] h0 _
  have f0 : Fr (fun a => b ≤ a ∧ a < b + 16) h0 h0 := Fr.rf
  refine am_aload_n dX5_addPiece_0 0 rfl ?_
  refine am_get (v := .int (p.1 8)) dX5_addPiece_1 kGX5_64 (pl_0 (p := p) hp) rfl ?_
  refine am_bipush (v := 14) dX5_addPiece_4 (by decide) ?_
  refine am_icmp_lt dX5_addPiece_6 (by decide : ((6 : Nat) : Int) + (4) = ((10 : Nat) : Int)) (fun c1 => ?_) (fun c1 => ?_)
  · refine am_aload_n dX5_addPiece_10 0 rfl ?_
    refine am_get (v := .ref (gz G + (b + 10))) dX5_addPiece_11 kGX5_18 (pl_0 (p := p) hp) rfl ?_
    refine am_aload_n dX5_addPiece_14 0 rfl ?_
    refine am_get (v := .int (p.1 8)) dX5_addPiece_15 kGX5_64 (pl_0 (p := p) hp) rfl ?_
    refine am_iload_n dX5_addPiece_18 1 rfl ?_
    refine am_callSN (As := [.ref (gz G + (b + 10)), .int (p.1 8), .int z1]) (rest := []) dX5_addPiece_19 kMX5_75 rfl  rfl (Nat.le_of_ble_eq_true rfl) (d2 := 0) (by decide) (k2 := 0) (Nat.zero_le _) (u2 := 0) (Nat.zero_le _) (Nat.le_of_ble_eq_true rfl) (ctX6_put (f := (p.2 8)) (pl_r8 (p := p) hp) (by decide) (p.1 8) z1) (fun v2 h3 q4 => ?_)
    obtain ⟨rfl, rfl⟩ := q4
    have w5 := pl_u8 hp (fX6_put 14 (p.2 8) (p.1 8) z1)
    have w6 := Fr.set f0 (a := (b + 10)) (c := .inl (0, 14, .inl (fX6_put 14 (p.2 8) (p.1 8) z1))) (by show b ≤ (b + 10) ∧ (b + 10) < b + 16; omega)
    refine am_aload_n dX5_addPiece_22 0 rfl ?_
    refine am_get (v := .ref (gz G + (b + 11))) dX5_addPiece_23 kGX5_22 (pl_0 (p := (upR p 8 (fX6_put 14 (p.2 8) (p.1 8) z1))) w5) rfl ?_
    refine am_aload_n dX5_addPiece_26 0 rfl ?_
    refine am_get (v := .int (p.1 8)) dX5_addPiece_27 kGX5_64 (pl_0 (p := (upR p 8 (fX6_put 14 (p.2 8) (p.1 8) z1))) w5) rfl ?_
    refine am_iload_n dX5_addPiece_30 2 rfl ?_
    refine am_callSN (As := [.ref (gz G + (b + 11)), .int (p.1 8), .int z2]) (rest := []) dX5_addPiece_31 kMX5_75 rfl  rfl (Nat.le_of_ble_eq_true rfl) (d2 := 0) (by decide) (k2 := 0) (Nat.zero_le _) (u2 := 0) (Nat.zero_le _) (Nat.le_of_ble_eq_true rfl) (ctX6_put (f := (p.2 9)) (pl_r9 (p := (upR p 8 (fX6_put 14 (p.2 8) (p.1 8) z1))) w5) (by decide) (p.1 8) z2) (fun v7 h8 q9 => ?_)
    obtain ⟨rfl, rfl⟩ := q9
    have w10 := pl_u9 w5 (fX6_put 14 (p.2 9) (p.1 8) z2)
    have w11 := Fr.set w6 (a := (b + 11)) (c := .inl (0, 14, .inl (fX6_put 14 (p.2 9) (p.1 8) z2))) (by show b ≤ (b + 11) ∧ (b + 11) < b + 16; omega)
    refine am_aload_n dX5_addPiece_34 0 rfl ?_
    refine am_get (v := .ref (gz G + (b + 12))) dX5_addPiece_35 kGX5_25 (pl_0 (p := (upR (upR p 8 (fX6_put 14 (p.2 8) (p.1 8) z1)) 9 (fX6_put 14 (p.2 9) (p.1 8) z2))) w10) rfl ?_
    refine am_aload_n dX5_addPiece_38 0 rfl ?_
    refine am_get (v := .int (p.1 8)) dX5_addPiece_39 kGX5_64 (pl_0 (p := (upR (upR p 8 (fX6_put 14 (p.2 8) (p.1 8) z1)) 9 (fX6_put 14 (p.2 9) (p.1 8) z2))) w10) rfl ?_
    refine am_iload_n dX5_addPiece_42 3 rfl ?_
    refine am_callSN (As := [.ref (gz G + (b + 12)), .int (p.1 8), .int z3]) (rest := []) dX5_addPiece_43 kMX5_75 rfl  rfl (Nat.le_of_ble_eq_true rfl) (d2 := 0) (by decide) (k2 := 0) (Nat.zero_le _) (u2 := 0) (Nat.zero_le _) (Nat.le_of_ble_eq_true rfl) (ctX6_put (f := (p.2 10)) (pl_r10 (p := (upR (upR p 8 (fX6_put 14 (p.2 8) (p.1 8) z1)) 9 (fX6_put 14 (p.2 9) (p.1 8) z2))) w10) (by decide) (p.1 8) z3) (fun v12 h13 q14 => ?_)
    obtain ⟨rfl, rfl⟩ := q14
    have w15 := pl_u10 w10 (fX6_put 14 (p.2 10) (p.1 8) z3)
    have w16 := Fr.set w11 (a := (b + 12)) (c := .inl (0, 14, .inl (fX6_put 14 (p.2 10) (p.1 8) z3))) (by show b ≤ (b + 12) ∧ (b + 12) < b + 16; omega)
    obtain ⟨r17, e18⟩ : ∃ x, (upR (upR (upR p 8 (fX6_put 14 (p.2 8) (p.1 8) z1)) 9 (fX6_put 14 (p.2 9) (p.1 8) z2)) 10 (fX6_put 14 (p.2 10) (p.1 8) z3)) = x := ⟨_, rfl⟩
    have w19 := pl_eq e18 w15
    refine am_aload_n dX5_addPiece_46 0 rfl ?_
    refine am_get (v := .ref (gz G + (b + 13))) dX5_addPiece_47 kGX5_28 (pl_0 (p := r17) w19) rfl ?_
    refine am_aload_n dX5_addPiece_50 0 rfl ?_
    refine am_get (v := .int (r17.1 8)) dX5_addPiece_51 kGX5_64 (pl_0 (p := r17) w19) rfl ?_
    refine am_iload_n dX5_addPiece_54 3 rfl ?_
    refine am_callSN (As := [.ref (gz G + (b + 13)), .int (r17.1 8), .int z3]) (rest := []) dX5_addPiece_55 kMX5_75 rfl  rfl (Nat.le_of_ble_eq_true rfl) (d2 := 0) (by decide) (k2 := 0) (Nat.zero_le _) (u2 := 0) (Nat.zero_le _) (Nat.le_of_ble_eq_true rfl) (ctX6_put (f := (r17.2 11)) (pl_r11 (p := r17) w19) (by decide) (r17.1 8) z3) (fun v20 h21 q22 => ?_)
    obtain ⟨rfl, rfl⟩ := q22
    have w23 := pl_u11 w19 (fX6_put 14 (r17.2 11) (r17.1 8) z3)
    have w24 := Fr.set w16 (a := (b + 13)) (c := .inl (0, 14, .inl (fX6_put 14 (r17.2 11) (r17.1 8) z3))) (by show b ≤ (b + 13) ∧ (b + 13) < b + 16; omega)
    refine am_aload_n dX5_addPiece_58 0 rfl ?_
    refine am_get (v := .ref (gz G + (b + 14))) dX5_addPiece_59 kGX5_31 (pl_0 (p := (upR r17 11 (fX6_put 14 (r17.2 11) (r17.1 8) z3))) w23) rfl ?_
    refine am_aload_n dX5_addPiece_62 0 rfl ?_
    refine am_get (v := .int (r17.1 8)) dX5_addPiece_63 kGX5_64 (pl_0 (p := (upR r17 11 (fX6_put 14 (r17.2 11) (r17.1 8) z3))) w23) rfl ?_
    refine am_iload dX5_addPiece_66 4 rfl ?_
    refine am_callSN (As := [.ref (gz G + (b + 14)), .int (r17.1 8), .int z4]) (rest := []) dX5_addPiece_68 kMX5_75 rfl  rfl (Nat.le_of_ble_eq_true rfl) (d2 := 0) (by decide) (k2 := 0) (Nat.zero_le _) (u2 := 0) (Nat.zero_le _) (Nat.le_of_ble_eq_true rfl) (ctX6_put (f := (r17.2 12)) (pl_r12 (p := (upR r17 11 (fX6_put 14 (r17.2 11) (r17.1 8) z3))) w23) (by decide) (r17.1 8) z4) (fun v25 h26 q27 => ?_)
    obtain ⟨rfl, rfl⟩ := q27
    have w28 := pl_u12 w23 (fX6_put 14 (r17.2 12) (r17.1 8) z4)
    have w29 := Fr.set w24 (a := (b + 14)) (c := .inl (0, 14, .inl (fX6_put 14 (r17.2 12) (r17.1 8) z4))) (by show b ≤ (b + 14) ∧ (b + 14) < b + 16; omega)
    refine am_aload_n dX5_addPiece_71 0 rfl ?_
    refine am_get (v := .ref (gz G + (b + 15))) dX5_addPiece_72 kGX5_34 (pl_0 (p := (upR (upR r17 11 (fX6_put 14 (r17.2 11) (r17.1 8) z3)) 12 (fX6_put 14 (r17.2 12) (r17.1 8) z4))) w28) rfl ?_
    refine am_aload_n dX5_addPiece_75 0 rfl ?_
    refine am_get (v := .int (r17.1 8)) dX5_addPiece_76 kGX5_64 (pl_0 (p := (upR (upR r17 11 (fX6_put 14 (r17.2 11) (r17.1 8) z3)) 12 (fX6_put 14 (r17.2 12) (r17.1 8) z4))) w28) rfl ?_
    refine am_iconst (v := 0) dX5_addPiece_79 (by decide) ?_
    refine am_callSN (As := [.ref (gz G + (b + 15)), .int (r17.1 8), .int 0]) (rest := []) dX5_addPiece_80 kMX5_75 rfl  rfl (Nat.le_of_ble_eq_true rfl) (d2 := 0) (by decide) (k2 := 0) (Nat.zero_le _) (u2 := 0) (Nat.zero_le _) (Nat.le_of_ble_eq_true rfl) (ctX6_put (f := (r17.2 13)) (pl_r13 (p := (upR (upR r17 11 (fX6_put 14 (r17.2 11) (r17.1 8) z3)) 12 (fX6_put 14 (r17.2 12) (r17.1 8) z4))) w28) (by decide) (r17.1 8) 0) (fun v30 h31 q32 => ?_)
    obtain ⟨rfl, rfl⟩ := q32
    have w33 := pl_u13 w28 (fX6_put 14 (r17.2 13) (r17.1 8) 0)
    have w34 := Fr.set w29 (a := (b + 15)) (c := .inl (0, 14, .inl (fX6_put 14 (r17.2 13) (r17.1 8) 0))) (by show b ≤ (b + 15) ∧ (b + 15) < b + 16; omega)
    obtain ⟨r35, e36⟩ : ∃ x, (upR (upR (upR r17 11 (fX6_put 14 (r17.2 11) (r17.1 8) z3)) 12 (fX6_put 14 (r17.2 12) (r17.1 8) z4)) 13 (fX6_put 14 (r17.2 13) (r17.1 8) 0)) = x := ⟨_, rfl⟩
    have w37 := pl_eq e36 w33
    refine am_aload_n dX5_addPiece_83 0 rfl ?_
    refine am_dup dX5_addPiece_84 rfl ?_
    refine am_get (v := .int (r35.1 8)) dX5_addPiece_85 kGX5_64 (pl_0 (p := r35) w37) rfl ?_
    refine am_iconst (v := 1) dX5_addPiece_88 (by decide) ?_
    refine am_iadd dX5_addPiece_89 ?_
    refine am_put dX5_addPiece_90 kFX5_64 (pl_0 (p := r35) w37) (Nat.le_of_ble_eq_true rfl) rfl rfl ?_
    have w38 := pl_s8 w37 ((r35.1 8) + 1)
    have w39 := Fr.set w34 (a := b) (c := .inr (6, [.ref (gz G + (b + 1)), .int (r35.1 3), .int (r35.1 4), .int (r35.1 5), .int (r35.1 6), .int (r35.1 7), .int ((r35.1 8) + 1), .ref (gz G + (b + 10)), .ref (gz G + (b + 11)), .ref (gz G + (b + 12)), .ref (gz G + (b + 13)), .ref (gz G + (b + 14)), .ref (gz G + (b + 15))])) (by show b ≤ b ∧ b < b + 16; omega)
    exact am_return dX5_addPiece_93 rfl ⟨_, Eq.trans (if_pos c1) (bnd_eq e18 (bnd_eq e36 (rfl))), rfl, w38, w39⟩
  · exact am_return dX5_addPiece_9 rfl ⟨_, Eq.trans (if_neg c1) (rfl), rfl, hp, f0⟩

theorem dX5_boardOn_0 : decode cX5_boardOn 0 = .ok (.aload_n 0, 1) := by decide +kernel
theorem dX5_boardOn_1 : decode cX5_boardOn 1 = .ok (.iload_n 1, 1) := by decide +kernel
theorem dX5_boardOn_2 : decode cX5_boardOn 2 = .ok (.iload_n 2, 1) := by decide +kernel
theorem dX5_boardOn_3 : decode cX5_boardOn 3 = .ok (.invokevirtual 102, 3) := by decide +kernel
theorem dX5_boardOn_6 : decode cX5_boardOn 6 = .ok (.istore_n 3, 1) := by decide +kernel
theorem dX5_boardOn_7 : decode cX5_boardOn 7 = .ok (.iload_n 3, 1) := by decide +kernel
theorem dX5_boardOn_8 : decode cX5_boardOn 8 = .ok (.iconst (-1), 1) := by decide +kernel
theorem dX5_boardOn_9 : decode cX5_boardOn 9 = .ok (.if_icmp .ne 14, 3) := by decide +kernel
theorem dX5_boardOn_12 : decode cX5_boardOn 12 = .ok (.aload_n 0, 1) := by decide +kernel
theorem dX5_boardOn_13 : decode cX5_boardOn 13 = .ok (.getfield 34, 3) := by decide +kernel
theorem dX5_boardOn_16 : decode cX5_boardOn 16 = .ok (.iload_n 1, 1) := by decide +kernel
theorem dX5_boardOn_17 : decode cX5_boardOn 17 = .ok (.iconst 2, 1) := by decide +kernel
theorem dX5_boardOn_18 : decode cX5_boardOn 18 = .ok (.invokestatic 75, 3) := by decide +kernel
theorem dX5_boardOn_21 : decode cX5_boardOn 21 = .ok (.iconst 0, 1) := by decide +kernel
theorem dX5_boardOn_22 : decode cX5_boardOn 22 = .ok (.ireturn, 1) := by decide +kernel
theorem dX5_boardOn_23 : decode cX5_boardOn 23 = .ok (.aload_n 0, 1) := by decide +kernel
theorem dX5_boardOn_24 : decode cX5_boardOn 24 = .ok (.getfield 28, 3) := by decide +kernel
theorem dX5_boardOn_27 : decode cX5_boardOn 27 = .ok (.iload_n 1, 1) := by decide +kernel
theorem dX5_boardOn_28 : decode cX5_boardOn 28 = .ok (.iload_n 3, 1) := by decide +kernel
theorem dX5_boardOn_29 : decode cX5_boardOn 29 = .ok (.invokestatic 75, 3) := by decide +kernel
theorem dX5_boardOn_32 : decode cX5_boardOn 32 = .ok (.aload_n 0, 1) := by decide +kernel
theorem dX5_boardOn_33 : decode cX5_boardOn 33 = .ok (.getfield 34, 3) := by decide +kernel
theorem dX5_boardOn_36 : decode cX5_boardOn 36 = .ok (.iload_n 1, 1) := by decide +kernel
theorem dX5_boardOn_37 : decode cX5_boardOn 37 = .ok (.iconst 1, 1) := by decide +kernel
theorem dX5_boardOn_38 : decode cX5_boardOn 38 = .ok (.invokestatic 75, 3) := by decide +kernel
theorem dX5_boardOn_41 : decode cX5_boardOn 41 = .ok (.iconst 1, 1) := by decide +kernel
theorem dX5_boardOn_42 : decode cX5_boardOn 42 = .ok (.ireturn, 1) := by decide +kernel
def fX5_boardOn (p : Pl) (z1 : Int32) (z2 : Int32) : Int32 × Pl := (if (fX5_lengthOn p z1 z2) = (-1) then (0, (upR p 13 (fX6_put 14 (p.2 13) z1 2))) else (1, (upR (upR p 11 (fX6_put 14 (p.2 11) z1 (fX5_lengthOn p z1 z2))) 13 (fX6_put 14 (p.2 13) z1 1))))
set_option maxRecDepth 20000 in
theorem ctX5_boardOn {l : Launch} {G : GM} {b : Nat} {h0 : List va_E} {p : Pl} (hp : PlantAt G h0 b p) (z1 : Int32) (z2 : Int32) : Ct l G mX5_boardOn 4 0 0 [.ref (gz G + b), .int z1, .int z2] h0 (fun v h1 => ∃ r, (fX5_boardOn p z1 z2) = r ∧ v = some (.int r.1) ∧ PlantAt G h1 b r.2 ∧ Fr (fun a => b ≤ a ∧ a < b + 16) h0 h1) := by
  show Tr l G mX5_boardOn 4 0 0 0 [(0, .ref (gz G + b)), (1, .int z1), (2, .int z2)] [] h0 _
  have f0 : Fr (fun a => b ≤ a ∧ a < b + 16) h0 h0 := Fr.rf
  refine am_aload_n dX5_boardOn_0 0 rfl ?_
  refine am_iload_n dX5_boardOn_1 1 rfl ?_
  refine am_iload_n dX5_boardOn_2 2 rfl ?_
  refine am_callV (As := [.int z1, .int z2]) (rest := []) dX5_boardOn_3 kMX5_102 rfl (pl_0 (p := p) hp) rfl rfl (Nat.le_of_ble_eq_true rfl) (d2 := 3) (by decide) (k2 := 0) (Nat.zero_le _) (u2 := 0) (Nat.zero_le _) (Nat.le_of_ble_eq_true rfl) (ctX5_lengthOn (p := p) hp z1 z2) (fun v1 h2 q3 => ?_)
  obtain ⟨rfl, rfl⟩ := q3
  refine am_istore_n dX5_boardOn_6 (by decide) (lv' := [(3, .int (fX5_lengthOn p z1 z2)), (0, .ref (gz G + b)), (1, .int z1), (2, .int z2)]) rfl ?_
  refine am_iload_n dX5_boardOn_7 0 rfl ?_
  refine am_iconst (v := (-1)) dX5_boardOn_8 (by decide) ?_
  refine am_icmp_ne dX5_boardOn_9 (by decide : ((9 : Nat) : Int) + (14) = ((23 : Nat) : Int)) (fun c4 => ?_) (fun c4 => ?_)
  · refine am_aload_n dX5_boardOn_23 1 rfl ?_
    refine am_get (v := .ref (gz G + (b + 13))) dX5_boardOn_24 kGX5_28 (pl_0 (p := p) hp) rfl ?_
    refine am_iload_n dX5_boardOn_27 2 rfl ?_
    refine am_iload_n dX5_boardOn_28 0 rfl ?_
    refine am_callSN (As := [.ref (gz G + (b + 13)), .int z1, .int (fX5_lengthOn p z1 z2)]) (rest := []) dX5_boardOn_29 kMX5_75 rfl  rfl (Nat.le_of_ble_eq_true rfl) (d2 := 0) (by decide) (k2 := 0) (Nat.zero_le _) (u2 := 0) (Nat.zero_le _) (Nat.le_of_ble_eq_true rfl) (ctX6_put (f := (p.2 11)) (pl_r11 (p := p) hp) (by decide) z1 (fX5_lengthOn p z1 z2)) (fun v5 h6 q7 => ?_)
    obtain ⟨rfl, rfl⟩ := q7
    have w8 := pl_u11 hp (fX6_put 14 (p.2 11) z1 (fX5_lengthOn p z1 z2))
    have w9 := Fr.set f0 (a := (b + 13)) (c := .inl (0, 14, .inl (fX6_put 14 (p.2 11) z1 (fX5_lengthOn p z1 z2)))) (by show b ≤ (b + 13) ∧ (b + 13) < b + 16; omega)
    refine am_aload_n dX5_boardOn_32 1 rfl ?_
    refine am_get (v := .ref (gz G + (b + 15))) dX5_boardOn_33 kGX5_34 (pl_0 (p := (upR p 11 (fX6_put 14 (p.2 11) z1 (fX5_lengthOn p z1 z2)))) w8) rfl ?_
    refine am_iload_n dX5_boardOn_36 2 rfl ?_
    refine am_iconst (v := 1) dX5_boardOn_37 (by decide) ?_
    refine am_callSN (As := [.ref (gz G + (b + 15)), .int z1, .int 1]) (rest := []) dX5_boardOn_38 kMX5_75 rfl  rfl (Nat.le_of_ble_eq_true rfl) (d2 := 0) (by decide) (k2 := 0) (Nat.zero_le _) (u2 := 0) (Nat.zero_le _) (Nat.le_of_ble_eq_true rfl) (ctX6_put (f := (p.2 13)) (pl_r13 (p := (upR p 11 (fX6_put 14 (p.2 11) z1 (fX5_lengthOn p z1 z2)))) w8) (by decide) z1 1) (fun v10 h11 q12 => ?_)
    obtain ⟨rfl, rfl⟩ := q12
    have w13 := pl_u13 w8 (fX6_put 14 (p.2 13) z1 1)
    have w14 := Fr.set w9 (a := (b + 15)) (c := .inl (0, 14, .inl (fX6_put 14 (p.2 13) z1 1))) (by show b ≤ (b + 15) ∧ (b + 15) < b + 16; omega)
    refine am_iconst (v := 1) dX5_boardOn_41 (by decide) ?_
    exact am_ireturn dX5_boardOn_42 rfl rfl ⟨_, Eq.trans (if_neg c4) (rfl), rfl, w13, w14⟩
  · refine am_aload_n dX5_boardOn_12 1 rfl ?_
    refine am_get (v := .ref (gz G + (b + 15))) dX5_boardOn_13 kGX5_34 (pl_0 (p := p) hp) rfl ?_
    refine am_iload_n dX5_boardOn_16 2 rfl ?_
    refine am_iconst (v := 2) dX5_boardOn_17 (by decide) ?_
    refine am_callSN (As := [.ref (gz G + (b + 15)), .int z1, .int 2]) (rest := []) dX5_boardOn_18 kMX5_75 rfl  rfl (Nat.le_of_ble_eq_true rfl) (d2 := 0) (by decide) (k2 := 0) (Nat.zero_le _) (u2 := 0) (Nat.zero_le _) (Nat.le_of_ble_eq_true rfl) (ctX6_put (f := (p.2 13)) (pl_r13 (p := p) hp) (by decide) z1 2) (fun v15 h16 q17 => ?_)
    obtain ⟨rfl, rfl⟩ := q17
    have w18 := pl_u13 hp (fX6_put 14 (p.2 13) z1 2)
    have w19 := Fr.set f0 (a := (b + 15)) (c := .inl (0, 14, .inl (fX6_put 14 (p.2 13) z1 2))) (by show b ≤ (b + 15) ∧ (b + 15) < b + 16; omega)
    refine am_iconst (v := 0) dX5_boardOn_21 (by decide) ?_
    exact am_ireturn dX5_boardOn_22 rfl rfl ⟨_, Eq.trans (if_pos c4) (rfl), rfl, w18, w19⟩

theorem dX5_boardRaw_0 : decode cX5_boardRaw 0 = .ok (.iconst 0, 1) := by decide +kernel
theorem dX5_boardRaw_1 : decode cX5_boardRaw 1 = .ok (.istore_n 2, 1) := by decide +kernel
theorem dX5_boardRaw_2 : decode cX5_boardRaw 2 = .ok (.iconst 0, 1) := by decide +kernel
theorem dX5_boardRaw_3 : decode cX5_boardRaw 3 = .ok (.istore_n 3, 1) := by decide +kernel
theorem dX5_boardRaw_4 : decode cX5_boardRaw 4 = .ok (.iload_n 3, 1) := by decide +kernel
theorem dX5_boardRaw_5 : decode cX5_boardRaw 5 = .ok (.aload_n 0, 1) := by decide +kernel
theorem dX5_boardRaw_6 : decode cX5_boardRaw 6 = .ok (.getfield 64, 3) := by decide +kernel
theorem dX5_boardRaw_9 : decode cX5_boardRaw 9 = .ok (.if_icmp .ge 32, 3) := by decide +kernel
theorem dX5_boardRaw_12 : decode cX5_boardRaw 12 = .ok (.aload_n 0, 1) := by decide +kernel
theorem dX5_boardRaw_13 : decode cX5_boardRaw 13 = .ok (.getfield 34, 3) := by decide +kernel
theorem dX5_boardRaw_16 : decode cX5_boardRaw 16 = .ok (.iload_n 3, 1) := by decide +kernel
theorem dX5_boardRaw_17 : decode cX5_boardRaw 17 = .ok (.invokestatic 79, 3) := by decide +kernel
theorem dX5_boardRaw_20 : decode cX5_boardRaw 20 = .ok (.ifCond .ne 15, 3) := by decide +kernel
theorem dX5_boardRaw_23 : decode cX5_boardRaw 23 = .ok (.aload_n 0, 1) := by decide +kernel
theorem dX5_boardRaw_24 : decode cX5_boardRaw 24 = .ok (.iload_n 3, 1) := by decide +kernel
theorem dX5_boardRaw_25 : decode cX5_boardRaw 25 = .ok (.iload_n 1, 1) := by decide +kernel
theorem dX5_boardRaw_26 : decode cX5_boardRaw 26 = .ok (.invokevirtual 105, 3) := by decide +kernel
theorem dX5_boardRaw_29 : decode cX5_boardRaw 29 = .ok (.ifCond .eq 6, 3) := by decide +kernel
theorem dX5_boardRaw_32 : decode cX5_boardRaw 32 = .ok (.iinc 2 1, 3) := by decide +kernel
theorem dX5_boardRaw_35 : decode cX5_boardRaw 35 = .ok (.iinc 3 1, 3) := by decide +kernel
theorem dX5_boardRaw_38 : decode cX5_boardRaw 38 = .ok (.goto (-34), 3) := by decide +kernel
theorem dX5_boardRaw_41 : decode cX5_boardRaw 41 = .ok (.iload_n 2, 1) := by decide +kernel
theorem dX5_boardRaw_42 : decode cX5_boardRaw 42 = .ok (.ireturn, 1) := by decide +kernel
def fX5_boardRaw_4 (z1 : Int32) : Nat → Int32 → Int32 → Pl → Int32 × Int32 × Pl
  | 0, x3, x2, y => (x3, x2, y)
  | fu + 1, x3, x2, y => (if (y.1 8) ≤ x3 then (x3, x2, y) else (if (fX6_at 14 (y.2 13) x3) = 0 then (bnd (fX5_boardOn y x3 z1) (fun r9 => (if r9.1 = 0 then (fX5_boardRaw_4 z1  fu (x3 + 1) x2 r9.2) else (fX5_boardRaw_4 z1  fu (x3 + 1) (x2 + 1) r9.2)))) else (fX5_boardRaw_4 z1  fu (x3 + 1) x2 y)))
set_option maxRecDepth 20000 in
theorem wX5_boardRaw_4 {l : Launch} {G : GM} {b : Nat} {h0 : List va_E} (z1 : Int32) {Q : Option Value → List va_E → Prop} : ∀ (fu : Nat) (x3 x2 : Int32) (y : Pl) (iv : ivU 2147483647 x3 fu) {h : List va_E} (gy : PlantAt G h b y) (gf : Fr (fun a => b ≤ a ∧ a < b + 16) h0 h) (kx : ∀ (h1 : List va_E) (r : Int32 × Int32 × Pl), (fX5_boardRaw_4 z1  fu x3 x2 y) = r → PlantAt G h1 b r.2.2 → Fr (fun a => b ≤ a ∧ a < b + 16) h0 h1 → Tr l G mX5_boardRaw 5 0 0 41 [(3, .int r.1), (2, .int r.2.1), (0, .ref (gz G + b)), (1, .int z1)] [] h1 Q), Tr l G mX5_boardRaw 5 0 0 4 [(3, .int x3), (2, .int x2), (0, .ref (gz G + b)), (1, .int z1)] [] h Q := by
  intro fu
  induction fu with
  | zero => intro x3 x2 y iv; intros; exact absurd iv ivU_0
  | succ fu ih =>
    intro x3 x2 y iv  h gy gf kx
    refine am_iload_n dX5_boardRaw_4 0 rfl ?_
    refine am_aload_n dX5_boardRaw_5 2 rfl ?_
    refine am_get (v := .int (y.1 8)) dX5_boardRaw_6 kGX5_64 (pl_0 (p := y) gy) rfl ?_
    refine am_icmp_ge dX5_boardRaw_9 (by decide : ((9 : Nat) : Int) + (32) = ((41 : Nat) : Int)) (fun c1 => ?_) (fun c1 => ?_)
    · exact kx _ _ (Eq.trans (if_pos c1) (rfl)) gy gf
    · refine am_aload_n dX5_boardRaw_12 2 rfl ?_
      refine am_get (v := .ref (gz G + (b + 15))) dX5_boardRaw_13 kGX5_34 (pl_0 (p := y) gy) rfl ?_
      refine am_iload_n dX5_boardRaw_16 0 rfl ?_
      refine am_callSN (As := [.ref (gz G + (b + 15)), .int x3]) (rest := []) dX5_boardRaw_17 kMX5_79 rfl  rfl (Nat.le_of_ble_eq_true rfl) (d2 := 0) (by decide) (k2 := 0) (Nat.zero_le _) (u2 := 0) (Nat.zero_le _) (Nat.le_of_ble_eq_true rfl) (ctX6_at (f := (y.2 13)) (pl_r13 (p := y) gy) (by decide) x3) (fun v2 h3 q4 => ?_)
      obtain ⟨rfl, rfl⟩ := q4
      refine am_if_ne dX5_boardRaw_20 (by decide : ((20 : Nat) : Int) + (15) = ((35 : Nat) : Int)) (fun c5 => ?_) (fun c5 => ?_)
      · refine am_iinc (v := (x3 + 1)) dX5_boardRaw_35 0 rfl rfl (by decide) (lv' := [(3, .int (x3 + 1)), (2, .int x2), (0, .ref (gz G + b)), (1, .int z1)]) rfl ?_
        refine am_goto dX5_boardRaw_38 (by decide : ((38 : Nat) : Int) + (-34) = ((4 : Nat) : Int)) ?_
        exact ih (x3 + 1) x2 y (ivU_s (iv_top c1) iv) gy gf (fun h1 r e => kx h1 r (Eq.trans (Eq.trans (if_neg c1) (Eq.trans (if_neg c5) (rfl))) e))
      · refine am_aload_n dX5_boardRaw_23 2 rfl ?_
        refine am_iload_n dX5_boardRaw_24 0 rfl ?_
        refine am_iload_n dX5_boardRaw_25 3 rfl ?_
        refine am_callV (As := [.int x3, .int z1]) (rest := []) dX5_boardRaw_26 kMX5_105 rfl (pl_0 (p := y) gy) rfl rfl (Nat.le_of_ble_eq_true rfl) (d2 := 4) (by decide) (k2 := 0) (Nat.zero_le _) (u2 := 0) (Nat.zero_le _) (Nat.le_of_ble_eq_true rfl) (ctX5_boardOn (p := y) gy x3 z1) (fun v6 h7 q8 => ?_)
        obtain ⟨r9, e10, rfl, w11, w12⟩ := q8
        have w13 := Fr.trans gf w12 (fun _ z => z)
        refine am_if_eq dX5_boardRaw_29 (by decide : ((29 : Nat) : Int) + (6) = ((35 : Nat) : Int)) (fun c14 => ?_) (fun c14 => ?_)
        · refine am_iinc (v := (x3 + 1)) dX5_boardRaw_35 0 rfl rfl (by decide) (lv' := [(3, .int (x3 + 1)), (2, .int x2), (0, .ref (gz G + b)), (1, .int z1)]) rfl ?_
          refine am_goto dX5_boardRaw_38 (by decide : ((38 : Nat) : Int) + (-34) = ((4 : Nat) : Int)) ?_
          exact ih (x3 + 1) x2 r9.2 (ivU_s (iv_top c1) iv) w11 w13 (fun h1 r e => kx h1 r (Eq.trans (Eq.trans (if_neg c1) (Eq.trans (if_pos c5) (bnd_eq e10 (Eq.trans (if_pos c14) (rfl))))) e))
        · refine am_iinc (v := (x2 + 1)) dX5_boardRaw_32 1 rfl rfl (by decide) (lv' := [(2, .int (x2 + 1)), (3, .int x3), (0, .ref (gz G + b)), (1, .int z1)]) rfl ?_
          refine am_iinc (v := (x3 + 1)) dX5_boardRaw_35 1 rfl rfl (by decide) (lv' := [(3, .int (x3 + 1)), (2, .int (x2 + 1)), (0, .ref (gz G + b)), (1, .int z1)]) rfl ?_
          refine am_goto dX5_boardRaw_38 (by decide : ((38 : Nat) : Int) + (-34) = ((4 : Nat) : Int)) ?_
          exact ih (x3 + 1) (x2 + 1) r9.2 (ivU_s (iv_top c1) iv) w11 w13 (fun h1 r e => kx h1 r (Eq.trans (Eq.trans (if_neg c1) (Eq.trans (if_pos c5) (bnd_eq e10 (Eq.trans (if_neg c14) (rfl))))) e))
def fX5_boardRaw (p : Pl) (z1 : Int32) : Int32 × Pl := (bnd (fX5_boardRaw_4 z1  (fuU 2147483647 0) 0 0 p) (fun r15 => (r15.2.1, r15.2.2)))
set_option maxRecDepth 20000 in
theorem ctX5_boardRaw {l : Launch} {G : GM} {b : Nat} {h0 : List va_E} {p : Pl} (hp : PlantAt G h0 b p) (z1 : Int32) : Ct l G mX5_boardRaw 5 0 0 [.ref (gz G + b), .int z1] h0 (fun v h1 => ∃ r, (fX5_boardRaw p z1) = r ∧ v = some (.int r.1) ∧ PlantAt G h1 b r.2 ∧ Fr (fun a => b ≤ a ∧ a < b + 16) h0 h1) := by
  show Tr l G mX5_boardRaw 5 0 0 0 [(0, .ref (gz G + b)), (1, .int z1)] [] h0 _
  have f0 : Fr (fun a => b ≤ a ∧ a < b + 16) h0 h0 := Fr.rf
  refine am_iconst (v := 0) dX5_boardRaw_0 (by decide) ?_
  refine am_istore_n dX5_boardRaw_1 (by decide) (lv' := [(2, .int 0), (0, .ref (gz G + b)), (1, .int z1)]) rfl ?_
  refine am_iconst (v := 0) dX5_boardRaw_2 (by decide) ?_
  refine am_istore_n dX5_boardRaw_3 (by decide) (lv' := [(3, .int 0), (2, .int 0), (0, .ref (gz G + b)), (1, .int z1)]) rfl ?_
  refine wX5_boardRaw_4 z1 (fuU 2147483647 0) 0 0 p ivU_i hp f0 (fun h17 r15 e16 w18 w19 => ?_)
  refine am_iload_n dX5_boardRaw_41 1 rfl ?_
  exact am_ireturn dX5_boardRaw_42 rfl rfl ⟨_, bnd_eq e16 (rfl), rfl, w18, w19⟩

theorem dX5_passDay_0 : decode cX5_passDay 0 = .ok (.iconst 0, 1) := by decide +kernel
theorem dX5_passDay_1 : decode cX5_passDay 1 = .ok (.istore_n 1, 1) := by decide +kernel
theorem dX5_passDay_2 : decode cX5_passDay 2 = .ok (.iconst 0, 1) := by decide +kernel
theorem dX5_passDay_3 : decode cX5_passDay 3 = .ok (.istore_n 2, 1) := by decide +kernel
theorem dX5_passDay_4 : decode cX5_passDay 4 = .ok (.iload_n 2, 1) := by decide +kernel
theorem dX5_passDay_5 : decode cX5_passDay 5 = .ok (.aload_n 0, 1) := by decide +kernel
theorem dX5_passDay_6 : decode cX5_passDay 6 = .ok (.getfield 64, 3) := by decide +kernel
theorem dX5_passDay_9 : decode cX5_passDay 9 = .ok (.if_icmp .ge 84, 3) := by decide +kernel
theorem dX5_passDay_12 : decode cX5_passDay 12 = .ok (.aload_n 0, 1) := by decide +kernel
theorem dX5_passDay_13 : decode cX5_passDay 13 = .ok (.getfield 28, 3) := by decide +kernel
theorem dX5_passDay_16 : decode cX5_passDay 16 = .ok (.iload_n 2, 1) := by decide +kernel
theorem dX5_passDay_17 : decode cX5_passDay 17 = .ok (.invokestatic 79, 3) := by decide +kernel
theorem dX5_passDay_20 : decode cX5_passDay 20 = .ok (.istore_n 3, 1) := by decide +kernel
theorem dX5_passDay_21 : decode cX5_passDay 21 = .ok (.aload_n 0, 1) := by decide +kernel
theorem dX5_passDay_22 : decode cX5_passDay 22 = .ok (.getfield 12, 3) := by decide +kernel
theorem dX5_passDay_25 : decode cX5_passDay 25 = .ok (.getfield 109, 3) := by decide +kernel
theorem dX5_passDay_28 : decode cX5_passDay 28 = .ok (.aload_n 0, 1) := by decide +kernel
theorem dX5_passDay_29 : decode cX5_passDay 29 = .ok (.getfield 18, 3) := by decide +kernel
theorem dX5_passDay_32 : decode cX5_passDay 32 = .ok (.iload_n 2, 1) := by decide +kernel
theorem dX5_passDay_33 : decode cX5_passDay 33 = .ok (.invokestatic 79, 3) := by decide +kernel
theorem dX5_passDay_36 : decode cX5_passDay 36 = .ok (.invokestatic 79, 3) := by decide +kernel
theorem dX5_passDay_39 : decode cX5_passDay 39 = .ok (.istore 4, 2) := by decide +kernel
theorem dX5_passDay_41 : decode cX5_passDay 41 = .ok (.iload_n 3, 1) := by decide +kernel
theorem dX5_passDay_42 : decode cX5_passDay 42 = .ok (.aload_n 0, 1) := by decide +kernel
theorem dX5_passDay_43 : decode cX5_passDay 43 = .ok (.getfield 25, 3) := by decide +kernel
theorem dX5_passDay_46 : decode cX5_passDay 46 = .ok (.iload_n 2, 1) := by decide +kernel
theorem dX5_passDay_47 : decode cX5_passDay 47 = .ok (.invokestatic 79, 3) := by decide +kernel
theorem dX5_passDay_50 : decode cX5_passDay 50 = .ok (.isub, 1) := by decide +kernel
theorem dX5_passDay_51 : decode cX5_passDay 51 = .ok (.iload 4, 2) := by decide +kernel
theorem dX5_passDay_53 : decode cX5_passDay 53 = .ok (.imul, 1) := by decide +kernel
theorem dX5_passDay_54 : decode cX5_passDay 54 = .ok (.bipush 100, 2) := by decide +kernel
theorem dX5_passDay_56 : decode cX5_passDay 56 = .ok (.idiv, 1) := by decide +kernel
theorem dX5_passDay_57 : decode cX5_passDay 57 = .ok (.istore 5, 2) := by decide +kernel
theorem dX5_passDay_59 : decode cX5_passDay 59 = .ok (.aload_n 0, 1) := by decide +kernel
theorem dX5_passDay_60 : decode cX5_passDay 60 = .ok (.iload_n 2, 1) := by decide +kernel
theorem dX5_passDay_61 : decode cX5_passDay 61 = .ok (.invokevirtual 112, 3) := by decide +kernel
theorem dX5_passDay_64 : decode cX5_passDay 64 = .ok (.ifCond .eq 23, 3) := by decide +kernel
theorem dX5_passDay_67 : decode cX5_passDay 67 = .ok (.iload 5, 2) := by decide +kernel
theorem dX5_passDay_69 : decode cX5_passDay 69 = .ok (.ifCond .eq 18, 3) := by decide +kernel
theorem dX5_passDay_72 : decode cX5_passDay 72 = .ok (.aload_n 0, 1) := by decide +kernel
theorem dX5_passDay_73 : decode cX5_passDay 73 = .ok (.getfield 28, 3) := by decide +kernel
theorem dX5_passDay_76 : decode cX5_passDay 76 = .ok (.iload_n 2, 1) := by decide +kernel
theorem dX5_passDay_77 : decode cX5_passDay 77 = .ok (.iload_n 3, 1) := by decide +kernel
theorem dX5_passDay_78 : decode cX5_passDay 78 = .ok (.iload 5, 2) := by decide +kernel
theorem dX5_passDay_80 : decode cX5_passDay 80 = .ok (.isub, 1) := by decide +kernel
theorem dX5_passDay_81 : decode cX5_passDay 81 = .ok (.invokestatic 75, 3) := by decide +kernel
theorem dX5_passDay_84 : decode cX5_passDay 84 = .ok (.iinc 1 1, 3) := by decide +kernel
theorem dX5_passDay_87 : decode cX5_passDay 87 = .ok (.iinc 2 1, 3) := by decide +kernel
theorem dX5_passDay_90 : decode cX5_passDay 90 = .ok (.goto (-86), 3) := by decide +kernel
theorem dX5_passDay_93 : decode cX5_passDay 93 = .ok (.aload_n 0, 1) := by decide +kernel
theorem dX5_passDay_94 : decode cX5_passDay 94 = .ok (.dup, 1) := by decide +kernel
theorem dX5_passDay_95 : decode cX5_passDay 95 = .ok (.getfield 61, 3) := by decide +kernel
theorem dX5_passDay_98 : decode cX5_passDay 98 = .ok (.iconst 1, 1) := by decide +kernel
theorem dX5_passDay_99 : decode cX5_passDay 99 = .ok (.iadd, 1) := by decide +kernel
theorem dX5_passDay_100 : decode cX5_passDay 100 = .ok (.putfield 61, 3) := by decide +kernel
theorem dX5_passDay_103 : decode cX5_passDay 103 = .ok (.iload_n 1, 1) := by decide +kernel
theorem dX5_passDay_104 : decode cX5_passDay 104 = .ok (.ireturn, 1) := by decide +kernel
def fX5_passDay_4  : Nat → Int32 → Int32 → Pl → Int32 × Int32 × Pl
  | 0, x2, x1, y => (x2, x1, y)
  | fu + 1, x2, x1, y => (if (y.1 8) ≤ x2 then (x2, x1, y) else (if (fX5_isBoarded y x2) = 0 then (fX5_passDay_4   fu (x2 + 1) x1 y) else (if ((((fX6_at 14 (y.2 11) x2) - (fX6_at 14 (y.2 10) x2)) * (fX6_at 6 (y.2 2) (fX6_at 14 (y.2 8) x2))) / 100) = 0 then (fX5_passDay_4   fu (x2 + 1) x1 y) else (bnd (upR y 11 (fX6_put 14 (y.2 11) x2 ((fX6_at 14 (y.2 11) x2) - ((((fX6_at 14 (y.2 11) x2) - (fX6_at 14 (y.2 10) x2)) * (fX6_at 6 (y.2 2) (fX6_at 14 (y.2 8) x2))) / 100)))) (fun r24 => (fX5_passDay_4   fu (x2 + 1) (x1 + 1) r24))))))
set_option maxRecDepth 20000 in
theorem wX5_passDay_4 {l : Launch} {G : GM} {b : Nat} {h0 : List va_E}  {Q : Option Value → List va_E → Prop} : ∀ (fu : Nat) (x2 x1 : Int32) (y : Pl) (iv : ivU 2147483647 x2 fu) {h : List va_E} (gy : PlantAt G h b y) (gf : Fr (fun a => b ≤ a ∧ a < b + 16) h0 h) (kx : ∀ (h1 : List va_E) (r : Int32 × Int32 × Pl), (fX5_passDay_4   fu x2 x1 y) = r → PlantAt G h1 b r.2.2 → Fr (fun a => b ≤ a ∧ a < b + 16) h0 h1 → Tr l G mX5_passDay 2 0 0 93 [(2, .int r.1), (1, .int r.2.1), (0, .ref (gz G + b))] [] h1 Q), Tr l G mX5_passDay 2 0 0 4 [(2, .int x2), (1, .int x1), (0, .ref (gz G + b))] [] h Q := by
  intro fu
  induction fu with
  | zero => intro x2 x1 y iv; intros; exact absurd iv ivU_0
  | succ fu ih =>
    intro x2 x1 y iv  h gy gf kx
    refine am_iload_n dX5_passDay_4 0 rfl ?_
    refine am_aload_n dX5_passDay_5 2 rfl ?_
    refine am_get (v := .int (y.1 8)) dX5_passDay_6 kGX5_64 (pl_0 (p := y) gy) rfl ?_
    refine am_icmp_ge dX5_passDay_9 (by decide : ((9 : Nat) : Int) + (84) = ((93 : Nat) : Int)) (fun c1 => ?_) (fun c1 => ?_)
    · exact kx _ _ (Eq.trans (if_pos c1) (rfl)) gy gf
    · refine am_aload_n dX5_passDay_12 2 rfl ?_
      refine am_get (v := .ref (gz G + (b + 13))) dX5_passDay_13 kGX5_28 (pl_0 (p := y) gy) rfl ?_
      refine am_iload_n dX5_passDay_16 0 rfl ?_
      refine am_callSN (As := [.ref (gz G + (b + 13)), .int x2]) (rest := []) dX5_passDay_17 kMX5_79 rfl  rfl (Nat.le_of_ble_eq_true rfl) (d2 := 0) (by decide) (k2 := 0) (Nat.zero_le _) (u2 := 0) (Nat.zero_le _) (Nat.le_of_ble_eq_true rfl) (ctX6_at (f := (y.2 11)) (pl_r11 (p := y) gy) (by decide) x2) (fun v2 h3 q4 => ?_)
      obtain ⟨rfl, rfl⟩ := q4
      refine am_istore_n dX5_passDay_20 (by decide) (lv' := [(3, .int (fX6_at 14 (y.2 11) x2)), (2, .int x2), (1, .int x1), (0, .ref (gz G + b))]) rfl ?_
      refine am_aload_n dX5_passDay_21 3 rfl ?_
      refine am_get (v := .ref (gz G + (b + 1))) dX5_passDay_22 kGX5_12 (pl_0 (p := y) gy) rfl ?_
      refine am_get (v := .ref (gz G + (b + 4))) dX5_passDay_25 kGX5_109 (pl_1 (p := y) gy) rfl ?_
      refine am_aload_n dX5_passDay_28 3 rfl ?_
      refine am_get (v := .ref (gz G + (b + 10))) dX5_passDay_29 kGX5_18 (pl_0 (p := y) gy) rfl ?_
      refine am_iload_n dX5_passDay_32 1 rfl ?_
      refine am_callSN (As := [.ref (gz G + (b + 10)), .int x2]) (rest := [.ref (gz G + (b + 4))]) dX5_passDay_33 kMX5_79 rfl  rfl (Nat.le_of_ble_eq_true rfl) (d2 := 0) (by decide) (k2 := 0) (Nat.zero_le _) (u2 := 0) (Nat.zero_le _) (Nat.le_of_ble_eq_true rfl) (ctX6_at (f := (y.2 8)) (pl_r8 (p := y) gy) (by decide) x2) (fun v5 h6 q7 => ?_)
      obtain ⟨rfl, rfl⟩ := q7
      refine am_callSN (As := [.ref (gz G + (b + 4)), .int (fX6_at 14 (y.2 8) x2)]) (rest := []) dX5_passDay_36 kMX5_79 rfl  rfl (Nat.le_of_ble_eq_true rfl) (d2 := 0) (by decide) (k2 := 0) (Nat.zero_le _) (u2 := 0) (Nat.zero_le _) (Nat.le_of_ble_eq_true rfl) (ctX6_at (f := (y.2 2)) (pl_r2 (p := y) gy) (by decide) (fX6_at 14 (y.2 8) x2)) (fun v8 h9 q10 => ?_)
      obtain ⟨rfl, rfl⟩ := q10
      refine am_istore dX5_passDay_39 (by decide) (lv' := [(4, .int (fX6_at 6 (y.2 2) (fX6_at 14 (y.2 8) x2))), (3, .int (fX6_at 14 (y.2 11) x2)), (2, .int x2), (1, .int x1), (0, .ref (gz G + b))]) rfl ?_
      refine am_iload_n dX5_passDay_41 1 rfl ?_
      refine am_aload_n dX5_passDay_42 4 rfl ?_
      refine am_get (v := .ref (gz G + (b + 12))) dX5_passDay_43 kGX5_25 (pl_0 (p := y) gy) rfl ?_
      refine am_iload_n dX5_passDay_46 2 rfl ?_
      refine am_callSN (As := [.ref (gz G + (b + 12)), .int x2]) (rest := [.int (fX6_at 14 (y.2 11) x2)]) dX5_passDay_47 kMX5_79 rfl  rfl (Nat.le_of_ble_eq_true rfl) (d2 := 0) (by decide) (k2 := 0) (Nat.zero_le _) (u2 := 0) (Nat.zero_le _) (Nat.le_of_ble_eq_true rfl) (ctX6_at (f := (y.2 10)) (pl_r10 (p := y) gy) (by decide) x2) (fun v11 h12 q13 => ?_)
      obtain ⟨rfl, rfl⟩ := q13
      refine am_isub dX5_passDay_50 ?_
      refine am_iload dX5_passDay_51 0 rfl ?_
      refine am_imul dX5_passDay_53 ?_
      refine am_bipush (v := 100) dX5_passDay_54 (by decide) ?_
      refine am_idiv dX5_passDay_56 (by decide) ?_
      refine am_istore dX5_passDay_57 (by decide) (lv' := [(5, .int ((((fX6_at 14 (y.2 11) x2) - (fX6_at 14 (y.2 10) x2)) * (fX6_at 6 (y.2 2) (fX6_at 14 (y.2 8) x2))) / 100)), (4, .int (fX6_at 6 (y.2 2) (fX6_at 14 (y.2 8) x2))), (3, .int (fX6_at 14 (y.2 11) x2)), (2, .int x2), (1, .int x1), (0, .ref (gz G + b))]) rfl ?_
      refine am_aload_n dX5_passDay_59 5 rfl ?_
      refine am_iload_n dX5_passDay_60 3 rfl ?_
      refine am_callV (As := [.int x2]) (rest := []) dX5_passDay_61 kMX5_112 rfl (pl_0 (p := y) gy) rfl rfl (Nat.le_of_ble_eq_true rfl) (d2 := 1) (by decide) (k2 := 0) (Nat.zero_le _) (u2 := 0) (Nat.zero_le _) (Nat.le_of_ble_eq_true rfl) (ctX5_isBoarded (p := y) gy x2) (fun v14 h15 q16 => ?_)
      obtain ⟨rfl, rfl⟩ := q16
      refine am_if_eq dX5_passDay_64 (by decide : ((64 : Nat) : Int) + (23) = ((87 : Nat) : Int)) (fun c17 => ?_) (fun c17 => ?_)
      · refine am_iinc (v := (x2 + 1)) dX5_passDay_87 3 rfl rfl (by decide) (lv' := [(2, .int (x2 + 1)), (5, .int ((((fX6_at 14 (y.2 11) x2) - (fX6_at 14 (y.2 10) x2)) * (fX6_at 6 (y.2 2) (fX6_at 14 (y.2 8) x2))) / 100)), (4, .int (fX6_at 6 (y.2 2) (fX6_at 14 (y.2 8) x2))), (3, .int (fX6_at 14 (y.2 11) x2)), (1, .int x1), (0, .ref (gz G + b))]) rfl ?_
        refine am_goto dX5_passDay_90 (by decide : ((90 : Nat) : Int) + (-86) = ((4 : Nat) : Int)) ?_
        refine am_lv (lv' := [(2, .int (x2 + 1)), (1, .int x1), (0, .ref (gz G + b))]) [0, 4, 5] rfl ?_
        exact ih (x2 + 1) x1 y (ivU_s (iv_top c1) iv) gy gf (fun h1 r e => kx h1 r (Eq.trans (Eq.trans (if_neg c1) (Eq.trans (if_pos c17) (rfl))) e))
      · refine am_iload dX5_passDay_67 0 rfl ?_
        refine am_if_eq dX5_passDay_69 (by decide : ((69 : Nat) : Int) + (18) = ((87 : Nat) : Int)) (fun c18 => ?_) (fun c18 => ?_)
        · refine am_iinc (v := (x2 + 1)) dX5_passDay_87 3 rfl rfl (by decide) (lv' := [(2, .int (x2 + 1)), (5, .int ((((fX6_at 14 (y.2 11) x2) - (fX6_at 14 (y.2 10) x2)) * (fX6_at 6 (y.2 2) (fX6_at 14 (y.2 8) x2))) / 100)), (4, .int (fX6_at 6 (y.2 2) (fX6_at 14 (y.2 8) x2))), (3, .int (fX6_at 14 (y.2 11) x2)), (1, .int x1), (0, .ref (gz G + b))]) rfl ?_
          refine am_goto dX5_passDay_90 (by decide : ((90 : Nat) : Int) + (-86) = ((4 : Nat) : Int)) ?_
          refine am_lv (lv' := [(2, .int (x2 + 1)), (1, .int x1), (0, .ref (gz G + b))]) [0, 4, 5] rfl ?_
          exact ih (x2 + 1) x1 y (ivU_s (iv_top c1) iv) gy gf (fun h1 r e => kx h1 r (Eq.trans (Eq.trans (if_neg c1) (Eq.trans (if_neg c17) (Eq.trans (if_pos c18) (rfl)))) e))
        · refine am_aload_n dX5_passDay_72 5 rfl ?_
          refine am_get (v := .ref (gz G + (b + 13))) dX5_passDay_73 kGX5_28 (pl_0 (p := y) gy) rfl ?_
          refine am_iload_n dX5_passDay_76 3 rfl ?_
          refine am_iload_n dX5_passDay_77 2 rfl ?_
          refine am_iload dX5_passDay_78 0 rfl ?_
          refine am_isub dX5_passDay_80 ?_
          refine am_callSN (As := [.ref (gz G + (b + 13)), .int x2, .int ((fX6_at 14 (y.2 11) x2) - ((((fX6_at 14 (y.2 11) x2) - (fX6_at 14 (y.2 10) x2)) * (fX6_at 6 (y.2 2) (fX6_at 14 (y.2 8) x2))) / 100))]) (rest := []) dX5_passDay_81 kMX5_75 rfl  rfl (Nat.le_of_ble_eq_true rfl) (d2 := 0) (by decide) (k2 := 0) (Nat.zero_le _) (u2 := 0) (Nat.zero_le _) (Nat.le_of_ble_eq_true rfl) (ctX6_put (f := (y.2 11)) (pl_r11 (p := y) gy) (by decide) x2 ((fX6_at 14 (y.2 11) x2) - ((((fX6_at 14 (y.2 11) x2) - (fX6_at 14 (y.2 10) x2)) * (fX6_at 6 (y.2 2) (fX6_at 14 (y.2 8) x2))) / 100))) (fun v19 h20 q21 => ?_)
          obtain ⟨rfl, rfl⟩ := q21
          have w22 := pl_u11 gy (fX6_put 14 (y.2 11) x2 ((fX6_at 14 (y.2 11) x2) - ((((fX6_at 14 (y.2 11) x2) - (fX6_at 14 (y.2 10) x2)) * (fX6_at 6 (y.2 2) (fX6_at 14 (y.2 8) x2))) / 100)))
          have w23 := Fr.set gf (a := (b + 13)) (c := .inl (0, 14, .inl (fX6_put 14 (y.2 11) x2 ((fX6_at 14 (y.2 11) x2) - ((((fX6_at 14 (y.2 11) x2) - (fX6_at 14 (y.2 10) x2)) * (fX6_at 6 (y.2 2) (fX6_at 14 (y.2 8) x2))) / 100))))) (by show b ≤ (b + 13) ∧ (b + 13) < b + 16; omega)
          obtain ⟨r24, e25⟩ : ∃ x, (upR y 11 (fX6_put 14 (y.2 11) x2 ((fX6_at 14 (y.2 11) x2) - ((((fX6_at 14 (y.2 11) x2) - (fX6_at 14 (y.2 10) x2)) * (fX6_at 6 (y.2 2) (fX6_at 14 (y.2 8) x2))) / 100)))) = x := ⟨_, rfl⟩
          have w26 := pl_eq e25 w22
          refine am_iinc (v := (x1 + 1)) dX5_passDay_84 4 rfl rfl (by decide) (lv' := [(1, .int (x1 + 1)), (5, .int ((((fX6_at 14 (y.2 11) x2) - (fX6_at 14 (y.2 10) x2)) * (fX6_at 6 (y.2 2) (fX6_at 14 (y.2 8) x2))) / 100)), (4, .int (fX6_at 6 (y.2 2) (fX6_at 14 (y.2 8) x2))), (3, .int (fX6_at 14 (y.2 11) x2)), (2, .int x2), (0, .ref (gz G + b))]) rfl ?_
          refine am_iinc (v := (x2 + 1)) dX5_passDay_87 4 rfl rfl (by decide) (lv' := [(2, .int (x2 + 1)), (1, .int (x1 + 1)), (5, .int ((((fX6_at 14 (y.2 11) x2) - (fX6_at 14 (y.2 10) x2)) * (fX6_at 6 (y.2 2) (fX6_at 14 (y.2 8) x2))) / 100)), (4, .int (fX6_at 6 (y.2 2) (fX6_at 14 (y.2 8) x2))), (3, .int (fX6_at 14 (y.2 11) x2)), (0, .ref (gz G + b))]) rfl ?_
          refine am_goto dX5_passDay_90 (by decide : ((90 : Nat) : Int) + (-86) = ((4 : Nat) : Int)) ?_
          refine am_lv (lv' := [(2, .int (x2 + 1)), (1, .int (x1 + 1)), (0, .ref (gz G + b))]) [0, 1, 5] rfl ?_
          exact ih (x2 + 1) (x1 + 1) r24 (ivU_s (iv_top c1) iv) w26 w23 (fun h1 r e => kx h1 r (Eq.trans (Eq.trans (if_neg c1) (Eq.trans (if_neg c17) (Eq.trans (if_neg c18) (bnd_eq e25 (rfl))))) e))
def fX5_passDay (p : Pl)  : Int32 × Pl := (bnd (fX5_passDay_4   (fuU 2147483647 0) 0 0 p) (fun r27 => (r27.2.1, (upS r27.2.2 7 ((r27.2.2.1 7) + 1)))))
set_option maxRecDepth 20000 in
theorem ctX5_passDay {l : Launch} {G : GM} {b : Nat} {h0 : List va_E} {p : Pl} (hp : PlantAt G h0 b p)  : Ct l G mX5_passDay 2 0 0 [.ref (gz G + b)] h0 (fun v h1 => ∃ r, (fX5_passDay p ) = r ∧ v = some (.int r.1) ∧ PlantAt G h1 b r.2 ∧ Fr (fun a => b ≤ a ∧ a < b + 16) h0 h1) := by
  show Tr l G mX5_passDay 2 0 0 0 [(0, .ref (gz G + b))] [] h0 _
  have f0 : Fr (fun a => b ≤ a ∧ a < b + 16) h0 h0 := Fr.rf
  refine am_iconst (v := 0) dX5_passDay_0 (by decide) ?_
  refine am_istore_n dX5_passDay_1 (by decide) (lv' := [(1, .int 0), (0, .ref (gz G + b))]) rfl ?_
  refine am_iconst (v := 0) dX5_passDay_2 (by decide) ?_
  refine am_istore_n dX5_passDay_3 (by decide) (lv' := [(2, .int 0), (1, .int 0), (0, .ref (gz G + b))]) rfl ?_
  refine wX5_passDay_4  (fuU 2147483647 0) 0 0 p ivU_i hp f0 (fun h29 r27 e28 w30 w31 => ?_)
  refine am_aload_n dX5_passDay_93 2 rfl ?_
  refine am_dup dX5_passDay_94 rfl ?_
  refine am_get (v := .int (r27.2.2.1 7)) dX5_passDay_95 kGX5_61 (pl_0 (p := r27.2.2) w30) rfl ?_
  refine am_iconst (v := 1) dX5_passDay_98 (by decide) ?_
  refine am_iadd dX5_passDay_99 ?_
  refine am_put dX5_passDay_100 kFX5_61 (pl_0 (p := r27.2.2) w30) (Nat.le_of_ble_eq_true rfl) rfl rfl ?_
  have w32 := pl_s7 w30 ((r27.2.2.1 7) + 1)
  have w33 := Fr.set w31 (a := b) (c := .inr (6, [.ref (gz G + (b + 1)), .int (r27.2.2.1 3), .int (r27.2.2.1 4), .int (r27.2.2.1 5), .int (r27.2.2.1 6), .int ((r27.2.2.1 7) + 1), .int (r27.2.2.1 8), .ref (gz G + (b + 10)), .ref (gz G + (b + 11)), .ref (gz G + (b + 12)), .ref (gz G + (b + 13)), .ref (gz G + (b + 14)), .ref (gz G + (b + 15))])) (by show b ≤ b ∧ b < b + 16; omega)
  refine am_iload_n dX5_passDay_103 1 rfl ?_
  exact am_ireturn dX5_passDay_104 rfl rfl ⟨_, bnd_eq e28 (rfl), rfl, w32, w33⟩

def fX5_groupSet_9 (z1 : Int32) (p : Pl) : Nat → Int32 → Int32 → Int32 → Int32 × Int32 × Int32
  | 0, x4, x3, x2 => (x4, x3, x2)
  | fu + 1, x4, x3, x2 => (if (p.1 8) ≤ x4 then (x4, x3, x2) else (if x3 = x2 then (x4, x3, x2) else (fX5_groupSet_9 z1 p fu (x4 + 1) (x3 ||| (1 <<< ((fX6_lowestOf (x2 &&& (x3 ^^^ (-1)))) &&& 31))) (x2 ||| (fX5_matchSet p (fX6_lowestOf (x2 &&& (x3 ^^^ (-1)))))) )))
def fX5_groupSet (p : Pl) (z1 : Int32) : Int32 := (bnd (fX5_groupSet_9 z1 p (fuU (p.1 8) 0) 0 0 (1 <<< (z1 &&& 31)) ) (fun r9 => r9.2.2))
