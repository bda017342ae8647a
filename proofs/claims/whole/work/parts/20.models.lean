/-! The model's methods (by program). -/
theorem dX7_seconds_0 : decode cX7_seconds 0 = .ok (.aload_n 0, 1) := by decide +kernel
theorem dX7_seconds_1 : decode cX7_seconds 1 = .ok (.invokevirtual 140, 3) := by decide +kernel
theorem dX7_seconds_4 : decode cX7_seconds 4 = .ok (.istore_n 1, 1) := by decide +kernel
theorem dX7_seconds_5 : decode cX7_seconds 5 = .ok (.iconst 0, 1) := by decide +kernel
theorem dX7_seconds_6 : decode cX7_seconds 6 = .ok (.istore_n 2, 1) := by decide +kernel
theorem dX7_seconds_7 : decode cX7_seconds 7 = .ok (.iconst 0, 1) := by decide +kernel
theorem dX7_seconds_8 : decode cX7_seconds 8 = .ok (.istore_n 3, 1) := by decide +kernel
theorem dX7_seconds_9 : decode cX7_seconds 9 = .ok (.iload_n 3, 1) := by decide +kernel
theorem dX7_seconds_10 : decode cX7_seconds 10 = .ok (.aload_n 0, 1) := by decide +kernel
theorem dX7_seconds_11 : decode cX7_seconds 11 = .ok (.invokevirtual 85, 3) := by decide +kernel
theorem dX7_seconds_14 : decode cX7_seconds 14 = .ok (.if_icmp .ge 47, 3) := by decide +kernel
theorem dX7_seconds_17 : decode cX7_seconds 17 = .ok (.iload_n 2, 1) := by decide +kernel
theorem dX7_seconds_18 : decode cX7_seconds 18 = .ok (.aload_n 0, 1) := by decide +kernel
theorem dX7_seconds_19 : decode cX7_seconds 19 = .ok (.iload_n 3, 1) := by decide +kernel
theorem dX7_seconds_20 : decode cX7_seconds 20 = .ok (.iconst 2, 1) := by decide +kernel
theorem dX7_seconds_21 : decode cX7_seconds 21 = .ok (.invokevirtual 89, 3) := by decide +kernel
theorem dX7_seconds_24 : decode cX7_seconds 24 = .ok (.ifCond .ne 22, 3) := by decide +kernel
theorem dX7_seconds_27 : decode cX7_seconds 27 = .ok (.aload_n 0, 1) := by decide +kernel
theorem dX7_seconds_28 : decode cX7_seconds 28 = .ok (.iload_n 3, 1) := by decide +kernel
theorem dX7_seconds_29 : decode cX7_seconds 29 = .ok (.iconst 1, 1) := by decide +kernel
theorem dX7_seconds_30 : decode cX7_seconds 30 = .ok (.invokevirtual 89, 3) := by decide +kernel
theorem dX7_seconds_33 : decode cX7_seconds 33 = .ok (.ifCond .eq 19, 3) := by decide +kernel
theorem dX7_seconds_36 : decode cX7_seconds 36 = .ok (.aload_n 0, 1) := by decide +kernel
theorem dX7_seconds_37 : decode cX7_seconds 37 = .ok (.getfield 32, 3) := by decide +kernel
theorem dX7_seconds_40 : decode cX7_seconds 40 = .ok (.iload_n 3, 1) := by decide +kernel
theorem dX7_seconds_41 : decode cX7_seconds 41 = .ok (.iaload, 1) := by decide +kernel
theorem dX7_seconds_42 : decode cX7_seconds 42 = .ok (.iconst (-1), 1) := by decide +kernel
theorem dX7_seconds_43 : decode cX7_seconds 43 = .ok (.if_icmp .ne 9, 3) := by decide +kernel
theorem dX7_seconds_46 : decode cX7_seconds 46 = .ok (.iconst 1, 1) := by decide +kernel
theorem dX7_seconds_47 : decode cX7_seconds 47 = .ok (.iload_n 3, 1) := by decide +kernel
theorem dX7_seconds_48 : decode cX7_seconds 48 = .ok (.ishl, 1) := by decide +kernel
theorem dX7_seconds_49 : decode cX7_seconds 49 = .ok (.goto 4, 3) := by decide +kernel
theorem dX7_seconds_52 : decode cX7_seconds 52 = .ok (.iconst 0, 1) := by decide +kernel
theorem dX7_seconds_53 : decode cX7_seconds 53 = .ok (.ior, 1) := by decide +kernel
theorem dX7_seconds_54 : decode cX7_seconds 54 = .ok (.istore_n 2, 1) := by decide +kernel
theorem dX7_seconds_55 : decode cX7_seconds 55 = .ok (.iinc 3 1, 3) := by decide +kernel
theorem dX7_seconds_58 : decode cX7_seconds 58 = .ok (.goto (-49), 3) := by decide +kernel
theorem dX7_seconds_61 : decode cX7_seconds 61 = .ok (.iload_n 2, 1) := by decide +kernel
theorem dX7_seconds_62 : decode cX7_seconds 62 = .ok (.ireturn, 1) := by decide +kernel
def fX7_seconds_9   (m : Md) : Nat → Int32 → Int32 → Int32 × Int32
  | 0, x3, x2 => (x3, x2)
  | fu + 1, x3, x2 => (if (fX7_count m ) ≤ x3 then (x3, x2) else (if (fX7_isIn m x3 2) = 0 then (if (fX7_isIn m x3 1) = 0 then (fX7_seconds_9   m fu (x3 + 1) (x2 ||| 0) ) else (if ((m.2.1 5) x3.toNatClampNeg) = (-1) then (fX7_seconds_9   m fu (x3 + 1) (x2 ||| ((1 : Int32) <<< (x3 &&& 31))) ) else (fX7_seconds_9   m fu (x3 + 1) (x2 ||| 0) ))) else (fX7_seconds_9   m fu (x3 + 1) (x2 ||| ((1 : Int32) <<< (x3 &&& 31))) )))
def sX7_seconds_9   (m : Md) : Nat → Int32 → Int32 → Prop
  | 0, _, _ => True
  | fu + 1, x3, x2 => (((fX7_count m ) ≤ x3 → True) ∧ (¬ (fX7_count m ) ≤ x3 → ((sX7_isIn m x3 2) ∧ (((fX7_isIn m x3 2) = 0 → ((sX7_isIn m x3 1) ∧ (((fX7_isIn m x3 1) = 0 → (sX7_seconds_9   m fu (x3 + 1) (x2 ||| 0) )) ∧ (¬ (fX7_isIn m x3 1) = 0 → (vp_in x3 14 ∧ ((((m.2.1 5) x3.toNatClampNeg) = (-1) → (sX7_seconds_9   m fu (x3 + 1) (x2 ||| ((1 : Int32) <<< (x3 &&& 31))) )) ∧ (¬ ((m.2.1 5) x3.toNatClampNeg) = (-1) → (sX7_seconds_9   m fu (x3 + 1) (x2 ||| 0) )))))))) ∧ (¬ (fX7_isIn m x3 2) = 0 → (sX7_seconds_9   m fu (x3 + 1) (x2 ||| ((1 : Int32) <<< (x3 &&& 31))) ))))))
set_option maxRecDepth 20000 in
theorem wX7_seconds_9 {l : Launch} {G : GM} {K : Nat → Option va_E}    {h : List va_E} {m : Md} (hm : HM G K h m) {Q : Option Value → List va_E → Prop} : ∀ (fu : Nat) (x3 x2 : Int32) (iv : ivU (fX7_count m ) x3 fu) (hs : sX7_seconds_9   m fu x3 x2 ) (kx : ∀ (r : Int32 × Int32), (fX7_seconds_9   m fu x3 x2 ) = r → Tr l G mX7_seconds 8 0 0 61 [(3, .int r.1), (2, .int r.2), (0, .ref (gz G + 221))] [] h Q), Tr l G mX7_seconds 8 0 0 9 [(3, .int x3), (2, .int x2), (0, .ref (gz G + 221))] [] h Q := by
  intro fu
  induction fu with
  | zero => intro x3 x2 iv; intros; exact absurd iv ivU_0
  | succ fu ih =>
    intro x3 x2 iv hs    kx
    rw [sX7_seconds_9] at hs
    refine am_iload_n dX7_seconds_9 0 rfl ?_
    refine am_aload_n dX7_seconds_10 2 rfl ?_
    refine am_callV (As := []) (rest := [.int x3]) dX7_seconds_11 kMX7_85 rfl (hmc221 (m := m) hm) rfl rfl (Nat.le_of_ble_eq_true rfl) (d2 := 0) (by decide) (k2 := 0) (Nat.zero_le _) (u2 := 0) (Nat.zero_le _) (Nat.le_of_ble_eq_true rfl) (ctX7_count (m := m) hm  ) (fun v8 h9 q10 => ?_)
    obtain ⟨rfl, rfl⟩ := q10
    refine am_icmp_ge dX7_seconds_14 (by decide : ((14 : Nat) : Int) + (47) = ((61 : Nat) : Int)) (fun c11 => ?_) (fun c11 => ?_)
    · have hs := hs.1 c11
      exact kx _ (ifp c11 (rfl))
    · have hs := hs.2 c11
      refine am_iload_n dX7_seconds_17 1 rfl ?_
      refine am_aload_n dX7_seconds_18 2 rfl ?_
      refine am_iload_n dX7_seconds_19 0 rfl ?_
      refine am_iconst (v := 2) dX7_seconds_20 (by decide) ?_
      obtain ⟨i12, hs⟩ := hs
      refine am_callV (As := [.int x3, .int 2]) (rest := [.int x2]) dX7_seconds_21 kMX7_89 rfl (hmc221 (m := m) hm) rfl rfl (Nat.le_of_ble_eq_true rfl) (d2 := 2) (by decide) (k2 := 0) (Nat.zero_le _) (u2 := 0) (Nat.zero_le _) (Nat.le_of_ble_eq_true rfl) (ctX7_isIn (m := m) hm x3 2 i12) (fun v13 h14 q15 => ?_)
      obtain ⟨rfl, rfl⟩ := q15
      refine am_if_ne dX7_seconds_24 (by decide : ((24 : Nat) : Int) + (22) = ((46 : Nat) : Int)) (fun c16 => ?_) (fun c16 => ?_)
      · have hs := hs.2 c16
        refine am_iconst (v := 1) dX7_seconds_46 (by decide) ?_
        refine am_iload_n dX7_seconds_47 0 rfl ?_
        refine am_ishl dX7_seconds_48 ?_
        refine am_goto dX7_seconds_49 (by decide : ((49 : Nat) : Int) + (4) = ((53 : Nat) : Int)) ?_
        refine am_ior dX7_seconds_53 ?_
        refine am_istore_n dX7_seconds_54 (by decide) (lv' := [(2, .int (x2 ||| ((1 : Int32) <<< (x3 &&& 31)))), (3, .int x3), (0, .ref (gz G + 221))]) rfl ?_
        refine am_iinc (v := (x3 + 1)) dX7_seconds_55 1 rfl rfl (by decide) (lv' := [(3, .int (x3 + 1)), (2, .int (x2 ||| ((1 : Int32) <<< (x3 &&& 31)))), (0, .ref (gz G + 221))]) rfl ?_
        refine am_goto dX7_seconds_58 (by decide : ((58 : Nat) : Int) + (-49) = ((9 : Nat) : Int)) ?_
        exact ih (x3 + 1) (x2 ||| ((1 : Int32) <<< (x3 &&& 31))) (ivU_s c11 iv) hs (fun r e => kx r (Eq.trans (ifn c11 (ifn c16 (rfl))) e))
      · have hs := hs.1 c16
        refine am_aload_n dX7_seconds_27 2 rfl ?_
        refine am_iload_n dX7_seconds_28 0 rfl ?_
        refine am_iconst (v := 1) dX7_seconds_29 (by decide) ?_
        obtain ⟨i17, hs⟩ := hs
        refine am_callV (As := [.int x3, .int 1]) (rest := [.int x2]) dX7_seconds_30 kMX7_89 rfl (hmc221 (m := m) hm) rfl rfl (Nat.le_of_ble_eq_true rfl) (d2 := 2) (by decide) (k2 := 0) (Nat.zero_le _) (u2 := 0) (Nat.zero_le _) (Nat.le_of_ble_eq_true rfl) (ctX7_isIn (m := m) hm x3 1 i17) (fun v18 h19 q20 => ?_)
        obtain ⟨rfl, rfl⟩ := q20
        refine am_if_eq dX7_seconds_33 (by decide : ((33 : Nat) : Int) + (19) = ((52 : Nat) : Int)) (fun c21 => ?_) (fun c21 => ?_)
        · have hs := hs.1 c21
          refine am_iconst (v := 0) dX7_seconds_52 (by decide) ?_
          refine am_ior dX7_seconds_53 ?_
          refine am_istore_n dX7_seconds_54 (by decide) (lv' := [(2, .int (x2 ||| 0)), (3, .int x3), (0, .ref (gz G + 221))]) rfl ?_
          refine am_iinc (v := (x3 + 1)) dX7_seconds_55 1 rfl rfl (by decide) (lv' := [(3, .int (x3 + 1)), (2, .int (x2 ||| 0)), (0, .ref (gz G + 221))]) rfl ?_
          refine am_goto dX7_seconds_58 (by decide : ((58 : Nat) : Int) + (-49) = ((9 : Nat) : Int)) ?_
          exact ih (x3 + 1) (x2 ||| 0) (ivU_s c11 iv) hs (fun r e => kx r (Eq.trans (ifn c11 (ifp c16 (ifp c21 (rfl)))) e))
        · have hs := hs.2 c21
          refine am_aload_n dX7_seconds_36 2 rfl ?_
          refine am_get (v := .ref (gz G + 227)) dX7_seconds_37 kGX7_32 (hmc221 (m := m) hm) rfl ?_
          refine am_iload_n dX7_seconds_40 0 rfl ?_
          obtain ⟨i22, hs⟩ := hs
          refine am_iald (f := (m.2.1 5)) dX7_seconds_41 (hmc227 (m := m) hm) i22 ?_
          refine am_iconst (v := (-1)) dX7_seconds_42 (by decide) ?_
          refine am_icmp_ne dX7_seconds_43 (by decide : ((43 : Nat) : Int) + (9) = ((52 : Nat) : Int)) (fun c23 => ?_) (fun c23 => ?_)
          · have hs := hs.2 c23
            refine am_iconst (v := 0) dX7_seconds_52 (by decide) ?_
            refine am_ior dX7_seconds_53 ?_
            refine am_istore_n dX7_seconds_54 (by decide) (lv' := [(2, .int (x2 ||| 0)), (3, .int x3), (0, .ref (gz G + 221))]) rfl ?_
            refine am_iinc (v := (x3 + 1)) dX7_seconds_55 1 rfl rfl (by decide) (lv' := [(3, .int (x3 + 1)), (2, .int (x2 ||| 0)), (0, .ref (gz G + 221))]) rfl ?_
            refine am_goto dX7_seconds_58 (by decide : ((58 : Nat) : Int) + (-49) = ((9 : Nat) : Int)) ?_
            exact ih (x3 + 1) (x2 ||| 0) (ivU_s c11 iv) hs (fun r e => kx r (Eq.trans (ifn c11 (ifp c16 (ifn c21 (ifn c23 (rfl))))) e))
          · have hs := hs.1 c23
            refine am_iconst (v := 1) dX7_seconds_46 (by decide) ?_
            refine am_iload_n dX7_seconds_47 0 rfl ?_
            refine am_ishl dX7_seconds_48 ?_
            refine am_goto dX7_seconds_49 (by decide : ((49 : Nat) : Int) + (4) = ((53 : Nat) : Int)) ?_
            refine am_ior dX7_seconds_53 ?_
            refine am_istore_n dX7_seconds_54 (by decide) (lv' := [(2, .int (x2 ||| ((1 : Int32) <<< (x3 &&& 31)))), (3, .int x3), (0, .ref (gz G + 221))]) rfl ?_
            refine am_iinc (v := (x3 + 1)) dX7_seconds_55 1 rfl rfl (by decide) (lv' := [(3, .int (x3 + 1)), (2, .int (x2 ||| ((1 : Int32) <<< (x3 &&& 31)))), (0, .ref (gz G + 221))]) rfl ?_
            refine am_goto dX7_seconds_58 (by decide : ((58 : Nat) : Int) + (-49) = ((9 : Nat) : Int)) ?_
            exact ih (x3 + 1) (x2 ||| ((1 : Int32) <<< (x3 &&& 31))) (ivU_s c11 iv) hs (fun r e => kx r (Eq.trans (ifn c11 (ifp c16 (ifn c21 (ifp c23 (rfl))))) e))
def fX7_seconds (m : Md)  : Int32 × Md := (bnd (fX7_layPartners m ) (fun r5 => (bnd (fX7_seconds_9   r5.2 (fuU (fX7_count r5.2 ) 0) 0 0 ) (fun r25 => (r25.2, r5.2)))))
def sX7_seconds (m : Md)  : Prop := ((sX7_layPartners m ) ∧ (bnd (fX7_layPartners m ) (fun r5 => ((sX7_seconds_9   r5.2 (fuU (fX7_count r5.2 ) 0) 0 0 ) ∧ bnd (fX7_seconds_9   r5.2 (fuU (fX7_count r5.2 ) 0) 0 0 ) (fun r25 => True)))))
set_option maxRecDepth 20000 in
theorem ctX7_seconds {l : Launch} {G : GM} {K : Nat → Option va_E} {h : List va_E} {m : Md} (hm : HM G K h m)  (hs : sX7_seconds m ) : Ct l G mX7_seconds 8 0 0 [.ref (gz G + 221)] h (fun v h1 => ∃ r, (fX7_seconds m ) = r ∧ v = some (.int r.1) ∧ HM G K h1 r.2) := by
  show Tr l G mX7_seconds 8 0 0 0 [(0, .ref (gz G + 221))] [] h _
  unfold sX7_seconds at hs
  refine am_aload_n dX7_seconds_0 0 rfl ?_
  obtain ⟨i1, hs⟩ := hs
  refine am_callV (As := []) (rest := []) dX7_seconds_1 kMX7_140 rfl (hmc221 (m := m) hm) rfl rfl (Nat.le_of_ble_eq_true rfl) (d2 := 7) (by decide) (k2 := 0) (Nat.zero_le _) (u2 := 0) (Nat.zero_le _) (Nat.le_of_ble_eq_true rfl) (ctX7_layPartners (m := m) hm  i1) (fun v2 h3 q4 => ?_)
  obtain ⟨r5, e6, rfl, w7⟩ := q4
  have hs := bnd_p e6 hs
  refine am_istore_n dX7_seconds_4 (by decide) (lv' := [(1, .int r5.1), (0, .ref (gz G + 221))]) rfl ?_
  refine am_iconst (v := 0) dX7_seconds_5 (by decide) ?_
  refine am_istore_n dX7_seconds_6 (by decide) (lv' := [(2, .int 0), (1, .int r5.1), (0, .ref (gz G + 221))]) rfl ?_
  refine am_iconst (v := 0) dX7_seconds_7 (by decide) ?_
  refine am_istore_n dX7_seconds_8 (by decide) (lv' := [(3, .int 0), (2, .int 0), (1, .int r5.1), (0, .ref (gz G + 221))]) rfl ?_
  refine am_lv (lv' := [(3, .int 0), (2, .int 0), (0, .ref (gz G + 221))]) [0, 1, 3] rfl ?_
  obtain ⟨i24, hs⟩ := hs
  refine wX7_seconds_9    w7 (fuU (fX7_count r5.2 ) 0) 0 0 ivU_i i24 (fun r25 e26 => ?_)
  have hs := bnd_p e26 hs
  refine am_iload_n dX7_seconds_61 1 rfl ?_
  exact am_ireturn dX7_seconds_62 rfl rfl ⟨_, bnd_eq e6 (bnd_eq e26 (rfl)), rfl, w7⟩

theorem dX7_together_0 : decode cX7_together 0 = .ok (.iconst 1, 1) := by decide +kernel
theorem dX7_together_1 : decode cX7_together 1 = .ok (.iload_n 1, 1) := by decide +kernel
theorem dX7_together_2 : decode cX7_together 2 = .ok (.ishl, 1) := by decide +kernel
theorem dX7_together_3 : decode cX7_together 3 = .ok (.istore_n 2, 1) := by decide +kernel
theorem dX7_together_4 : decode cX7_together 4 = .ok (.iconst 0, 1) := by decide +kernel
theorem dX7_together_5 : decode cX7_together 5 = .ok (.istore_n 3, 1) := by decide +kernel
theorem dX7_together_6 : decode cX7_together 6 = .ok (.iload_n 3, 1) := by decide +kernel
theorem dX7_together_7 : decode cX7_together 7 = .ok (.bipush 14, 2) := by decide +kernel
theorem dX7_together_9 : decode cX7_together 9 = .ok (.if_icmp .ge 49, 3) := by decide +kernel
theorem dX7_together_12 : decode cX7_together 12 = .ok (.iconst 0, 1) := by decide +kernel
theorem dX7_together_13 : decode cX7_together 13 = .ok (.istore 4, 2) := by decide +kernel
theorem dX7_together_15 : decode cX7_together 15 = .ok (.iload 4, 2) := by decide +kernel
theorem dX7_together_17 : decode cX7_together 17 = .ok (.aload_n 0, 1) := by decide +kernel
theorem dX7_together_18 : decode cX7_together 18 = .ok (.invokevirtual 85, 3) := by decide +kernel
theorem dX7_together_21 : decode cX7_together 21 = .ok (.if_icmp .ge 31, 3) := by decide +kernel
theorem dX7_together_24 : decode cX7_together 24 = .ok (.iload_n 2, 1) := by decide +kernel
theorem dX7_together_25 : decode cX7_together 25 = .ok (.iload_n 2, 1) := by decide +kernel
theorem dX7_together_26 : decode cX7_together 26 = .ok (.iload 4, 2) := by decide +kernel
theorem dX7_together_28 : decode cX7_together 28 = .ok (.invokestatic 104, 3) := by decide +kernel
theorem dX7_together_31 : decode cX7_together 31 = .ok (.ifCond .eq 12, 3) := by decide +kernel
theorem dX7_together_34 : decode cX7_together 34 = .ok (.aload_n 0, 1) := by decide +kernel
theorem dX7_together_35 : decode cX7_together 35 = .ok (.iload 4, 2) := by decide +kernel
theorem dX7_together_37 : decode cX7_together 37 = .ok (.invokevirtual 107, 3) := by decide +kernel
theorem dX7_together_40 : decode cX7_together 40 = .ok (.goto 4, 3) := by decide +kernel
theorem dX7_together_43 : decode cX7_together 43 = .ok (.iconst 0, 1) := by decide +kernel
theorem dX7_together_44 : decode cX7_together 44 = .ok (.ior, 1) := by decide +kernel
theorem dX7_together_45 : decode cX7_together 45 = .ok (.istore_n 2, 1) := by decide +kernel
theorem dX7_together_46 : decode cX7_together 46 = .ok (.iinc 4 1, 3) := by decide +kernel
theorem dX7_together_49 : decode cX7_together 49 = .ok (.goto (-34), 3) := by decide +kernel
theorem dX7_together_52 : decode cX7_together 52 = .ok (.iinc 3 1, 3) := by decide +kernel
theorem dX7_together_55 : decode cX7_together 55 = .ok (.goto (-49), 3) := by decide +kernel
theorem dX7_together_58 : decode cX7_together 58 = .ok (.iload_n 2, 1) := by decide +kernel
theorem dX7_together_59 : decode cX7_together 59 = .ok (.ireturn, 1) := by decide +kernel
def fX7_together_15 (z1 : Int32) (o3 : Int32) (m : Md) : Nat → Int32 → Int32 → Int32 × Int32
  | 0, x4, x2 => (x4, x2)
  | fu + 1, x4, x2 => (if (fX7_count m ) ≤ x4 then (x4, x2) else (if (fX7_hasBit x2 x4) = 0 then (fX7_together_15 z1 o3 m fu (x4 + 1) (x2 ||| 0) ) else (fX7_together_15 z1 o3 m fu (x4 + 1) (x2 ||| (fX7_matchesOf m x4)) )))
def sX7_together_15 (z1 : Int32) (o3 : Int32) (m : Md) : Nat → Int32 → Int32 → Prop
  | 0, _, _ => True
  | fu + 1, x4, x2 => (((fX7_count m ) ≤ x4 → True) ∧ (¬ (fX7_count m ) ≤ x4 → (((fX7_hasBit x2 x4) = 0 → (sX7_together_15 z1 o3 m fu (x4 + 1) (x2 ||| 0) )) ∧ (¬ (fX7_hasBit x2 x4) = 0 → ((sX7_matchesOf m x4) ∧ (sX7_together_15 z1 o3 m fu (x4 + 1) (x2 ||| (fX7_matchesOf m x4)) ))))))
set_option maxRecDepth 20000 in
theorem wX7_together_15 {l : Launch} {G : GM} {K : Nat → Option va_E} (z1 : Int32) (o3 : Int32)  {h : List va_E} {m : Md} (hm : HM G K h m) {Q : Option Value → List va_E → Prop} : ∀ (fu : Nat) (x4 x2 : Int32) (iv : ivU (fX7_count m ) x4 fu) (hs : sX7_together_15 z1 o3 m fu x4 x2 ) (kx : ∀ (r : Int32 × Int32), (fX7_together_15 z1 o3 m fu x4 x2 ) = r → Tr l G mX7_together 5 0 0 52 [(4, .int r.1), (3, .int o3), (2, .int r.2), (0, .ref (gz G + 221))] [] h Q), Tr l G mX7_together 5 0 0 15 [(4, .int x4), (3, .int o3), (2, .int x2), (0, .ref (gz G + 221))] [] h Q := by
  intro fu
  induction fu with
  | zero => intro x4 x2 iv; intros; exact absurd iv ivU_0
  | succ fu ih =>
    intro x4 x2 iv hs    kx
    rw [sX7_together_15] at hs
    refine am_iload dX7_together_15 0 rfl ?_
    refine am_aload_n dX7_together_17 3 rfl ?_
    refine am_callV (As := []) (rest := [.int x4]) dX7_together_18 kMX7_85 rfl (hmc221 (m := m) hm) rfl rfl (Nat.le_of_ble_eq_true rfl) (d2 := 0) (by decide) (k2 := 0) (Nat.zero_le _) (u2 := 0) (Nat.zero_le _) (Nat.le_of_ble_eq_true rfl) (ctX7_count (m := m) hm  ) (fun v2 h3 q4 => ?_)
    obtain ⟨rfl, rfl⟩ := q4
    refine am_icmp_ge dX7_together_21 (by decide : ((21 : Nat) : Int) + (31) = ((52 : Nat) : Int)) (fun c5 => ?_) (fun c5 => ?_)
    · have hs := hs.1 c5
      exact kx _ (ifp c5 (rfl))
    · have hs := hs.2 c5
      refine am_iload_n dX7_together_24 2 rfl ?_
      refine am_iload_n dX7_together_25 2 rfl ?_
      refine am_iload dX7_together_26 0 rfl ?_
      refine am_callS (As := [.int x2, .int x4]) (rest := [.int x2]) dX7_together_28 kMX7_104 rfl  rfl (Nat.le_of_ble_eq_true rfl) (d2 := 0) (by decide) (k2 := 0) (Nat.zero_le _) (u2 := 0) (Nat.zero_le _) (Nat.le_of_ble_eq_true rfl) (ctX7_hasBit  x2 x4 ) (fun v6 h7 q8 => ?_)
      obtain ⟨rfl, rfl⟩ := q8
      refine am_if_eq dX7_together_31 (by decide : ((31 : Nat) : Int) + (12) = ((43 : Nat) : Int)) (fun c9 => ?_) (fun c9 => ?_)
      · have hs := hs.1 c9
        refine am_iconst (v := 0) dX7_together_43 (by decide) ?_
        refine am_ior dX7_together_44 ?_
        refine am_istore_n dX7_together_45 (by decide) (lv' := [(2, .int (x2 ||| 0)), (4, .int x4), (3, .int o3), (0, .ref (gz G + 221))]) rfl ?_
        refine am_iinc (v := (x4 + 1)) dX7_together_46 1 rfl rfl (by decide) (lv' := [(4, .int (x4 + 1)), (2, .int (x2 ||| 0)), (3, .int o3), (0, .ref (gz G + 221))]) rfl ?_
        refine am_goto dX7_together_49 (by decide : ((49 : Nat) : Int) + (-34) = ((15 : Nat) : Int)) ?_
        refine am_lv (lv' := [(4, .int (x4 + 1)), (3, .int o3), (2, .int (x2 ||| 0)), (0, .ref (gz G + 221))]) [0, 2, 1, 3] rfl ?_
        exact ih (x4 + 1) (x2 ||| 0) (ivU_s c5 iv) hs (fun r e => kx r (Eq.trans (ifn c5 (ifp c9 (rfl))) e))
      · have hs := hs.2 c9
        refine am_aload_n dX7_together_34 3 rfl ?_
        refine am_iload dX7_together_35 0 rfl ?_
        obtain ⟨i10, hs⟩ := hs
        refine am_callV (As := [.int x4]) (rest := [.int x2]) dX7_together_37 kMX7_107 rfl (hmc221 (m := m) hm) rfl rfl (Nat.le_of_ble_eq_true rfl) (d2 := 4) (by decide) (k2 := 0) (Nat.zero_le _) (u2 := 0) (Nat.zero_le _) (Nat.le_of_ble_eq_true rfl) (ctX7_matchesOf (m := m) hm x4 i10) (fun v11 h12 q13 => ?_)
        obtain ⟨rfl, rfl⟩ := q13
        refine am_goto dX7_together_40 (by decide : ((40 : Nat) : Int) + (4) = ((44 : Nat) : Int)) ?_
        refine am_ior dX7_together_44 ?_
        refine am_istore_n dX7_together_45 (by decide) (lv' := [(2, .int (x2 ||| (fX7_matchesOf m x4))), (4, .int x4), (3, .int o3), (0, .ref (gz G + 221))]) rfl ?_
        refine am_iinc (v := (x4 + 1)) dX7_together_46 1 rfl rfl (by decide) (lv' := [(4, .int (x4 + 1)), (2, .int (x2 ||| (fX7_matchesOf m x4))), (3, .int o3), (0, .ref (gz G + 221))]) rfl ?_
        refine am_goto dX7_together_49 (by decide : ((49 : Nat) : Int) + (-34) = ((15 : Nat) : Int)) ?_
        refine am_lv (lv' := [(4, .int (x4 + 1)), (3, .int o3), (2, .int (x2 ||| (fX7_matchesOf m x4))), (0, .ref (gz G + 221))]) [0, 2, 1, 3] rfl ?_
        exact ih (x4 + 1) (x2 ||| (fX7_matchesOf m x4)) (ivU_s c5 iv) hs (fun r e => kx r (Eq.trans (ifn c5 (ifn c9 (rfl))) e))
def fX7_together_6 (z1 : Int32)  (m : Md) : Nat → Int32 → Int32 → Int32 × Int32
  | 0, x3, x2 => (x3, x2)
  | fu + 1, x3, x2 => (if 14 ≤ x3 then (x3, x2) else (bnd (fX7_together_15 z1 x3 m (fuU (fX7_count m ) 0) 0 x2 ) (fun r15 => (fX7_together_6 z1  m fu (x3 + 1) r15.2 ))))
def sX7_together_6 (z1 : Int32)  (m : Md) : Nat → Int32 → Int32 → Prop
  | 0, _, _ => True
  | fu + 1, x3, x2 => ((14 ≤ x3 → True) ∧ (¬ 14 ≤ x3 → ((sX7_together_15 z1 x3 m (fuU (fX7_count m ) 0) 0 x2 ) ∧ bnd (fX7_together_15 z1 x3 m (fuU (fX7_count m ) 0) 0 x2 ) (fun r15 => (sX7_together_6 z1  m fu (x3 + 1) r15.2 )))))
set_option maxRecDepth 20000 in
theorem wX7_together_6 {l : Launch} {G : GM} {K : Nat → Option va_E} (z1 : Int32)   {h : List va_E} {m : Md} (hm : HM G K h m) {Q : Option Value → List va_E → Prop} : ∀ (fu : Nat) (x3 x2 : Int32) (iv : ivU 14 x3 fu) (hs : sX7_together_6 z1  m fu x3 x2 ) (kx : ∀ (r : Int32 × Int32), (fX7_together_6 z1  m fu x3 x2 ) = r → Tr l G mX7_together 5 0 0 58 [(3, .int r.1), (2, .int r.2), (0, .ref (gz G + 221))] [] h Q), Tr l G mX7_together 5 0 0 6 [(3, .int x3), (2, .int x2), (0, .ref (gz G + 221))] [] h Q := by
  intro fu
  induction fu with
  | zero => intro x3 x2 iv; intros; exact absurd iv ivU_0
  | succ fu ih =>
    intro x3 x2 iv hs    kx
    rw [sX7_together_6] at hs
    refine am_iload_n dX7_together_6 0 rfl ?_
    refine am_bipush (v := 14) dX7_together_7 (by decide) ?_
    refine am_icmp_ge dX7_together_9 (by decide : ((9 : Nat) : Int) + (49) = ((58 : Nat) : Int)) (fun c1 => ?_) (fun c1 => ?_)
    · have hs := hs.1 c1
      exact kx _ (ifp c1 (rfl))
    · have hs := hs.2 c1
      refine am_iconst (v := 0) dX7_together_12 (by decide) ?_
      refine am_istore dX7_together_13 (by decide) (lv' := [(4, .int 0), (3, .int x3), (2, .int x2), (0, .ref (gz G + 221))]) rfl ?_
      obtain ⟨i14, hs⟩ := hs
      refine wX7_together_15 z1 x3  hm (fuU (fX7_count m ) 0) 0 x2 ivU_i i14 (fun r15 e16 => ?_)
      have hs := bnd_p e16 hs
      refine am_iinc (v := (x3 + 1)) dX7_together_52 1 rfl rfl (by decide) (lv' := [(3, .int (x3 + 1)), (4, .int r15.1), (2, .int r15.2), (0, .ref (gz G + 221))]) rfl ?_
      refine am_goto dX7_together_55 (by decide : ((55 : Nat) : Int) + (-49) = ((6 : Nat) : Int)) ?_
      refine am_lv (lv' := [(3, .int (x3 + 1)), (2, .int r15.2), (0, .ref (gz G + 221))]) [0, 2, 3] rfl ?_
      exact ih (x3 + 1) r15.2 (ivU_s c1 iv) hs (fun r e => kx r (Eq.trans (ifn c1 (bnd_eq e16 (rfl))) e))
def fX7_together (m : Md) (z1 : Int32) : Int32 := (bnd (fX7_together_6 z1  m (fuU 14 0) 0 ((1 : Int32) <<< (z1 &&& 31)) ) (fun r18 => r18.2))
def sX7_together (m : Md) (z1 : Int32) : Prop := ((sX7_together_6 z1  m (fuU 14 0) 0 ((1 : Int32) <<< (z1 &&& 31)) ) ∧ bnd (fX7_together_6 z1  m (fuU 14 0) 0 ((1 : Int32) <<< (z1 &&& 31)) ) (fun r18 => True))
set_option maxRecDepth 20000 in
theorem ctX7_together {l : Launch} {G : GM} {K : Nat → Option va_E} {h : List va_E} {m : Md} (hm : HM G K h m) (z1 : Int32) (hs : sX7_together m z1) : Ct l G mX7_together 5 0 0 [.ref (gz G + 221), .int z1] h (fun v h1 => v = some (.int (fX7_together m z1)) ∧ h1 = h) := by
  show Tr l G mX7_together 5 0 0 0 [(0, .ref (gz G + 221)), (1, .int z1)] [] h _
  unfold sX7_together at hs
  refine am_iconst (v := 1) dX7_together_0 (by decide) ?_
  refine am_iload_n dX7_together_1 1 rfl ?_
  refine am_ishl dX7_together_2 ?_
  refine am_istore_n dX7_together_3 (by decide) (lv' := [(2, .int ((1 : Int32) <<< (z1 &&& 31))), (0, .ref (gz G + 221)), (1, .int z1)]) rfl ?_
  refine am_iconst (v := 0) dX7_together_4 (by decide) ?_
  refine am_istore_n dX7_together_5 (by decide) (lv' := [(3, .int 0), (2, .int ((1 : Int32) <<< (z1 &&& 31))), (0, .ref (gz G + 221)), (1, .int z1)]) rfl ?_
  refine am_lv (lv' := [(3, .int 0), (2, .int ((1 : Int32) <<< (z1 &&& 31))), (0, .ref (gz G + 221))]) [0, 1, 2] rfl ?_
  obtain ⟨i17, hs⟩ := hs
  refine wX7_together_6 z1   hm (fuU 14 0) 0 ((1 : Int32) <<< (z1 &&& 31)) ivU_i i17 (fun r18 e19 => ?_)
  have hs := bnd_p e19 hs
  refine am_iload_n dX7_together_58 1 rfl ?_
  rw [show (fX7_together m z1) = r18.2 from bnd_eq e19 (rfl)]
  exact am_ireturn dX7_together_59 rfl rfl ⟨rfl, rfl⟩

theorem dX7_groupCount_0 : decode cX7_groupCount 0 = .ok (.iconst 0, 1) := by decide +kernel
theorem dX7_groupCount_1 : decode cX7_groupCount 1 = .ok (.istore_n 1, 1) := by decide +kernel
theorem dX7_groupCount_2 : decode cX7_groupCount 2 = .ok (.iconst 0, 1) := by decide +kernel
theorem dX7_groupCount_3 : decode cX7_groupCount 3 = .ok (.istore_n 2, 1) := by decide +kernel
theorem dX7_groupCount_4 : decode cX7_groupCount 4 = .ok (.iload_n 2, 1) := by decide +kernel
theorem dX7_groupCount_5 : decode cX7_groupCount 5 = .ok (.aload_n 0, 1) := by decide +kernel
theorem dX7_groupCount_6 : decode cX7_groupCount 6 = .ok (.invokevirtual 85, 3) := by decide +kernel
theorem dX7_groupCount_9 : decode cX7_groupCount 9 = .ok (.if_icmp .ge 38, 3) := by decide +kernel
theorem dX7_groupCount_12 : decode cX7_groupCount 12 = .ok (.iload_n 1, 1) := by decide +kernel
theorem dX7_groupCount_13 : decode cX7_groupCount 13 = .ok (.aload_n 0, 1) := by decide +kernel
theorem dX7_groupCount_14 : decode cX7_groupCount 14 = .ok (.iload_n 2, 1) := by decide +kernel
theorem dX7_groupCount_15 : decode cX7_groupCount 15 = .ok (.iconst 1, 1) := by decide +kernel
theorem dX7_groupCount_16 : decode cX7_groupCount 16 = .ok (.invokevirtual 89, 3) := by decide +kernel
theorem dX7_groupCount_19 : decode cX7_groupCount 19 = .ok (.ifCond .eq 19, 3) := by decide +kernel
theorem dX7_groupCount_22 : decode cX7_groupCount 22 = .ok (.aload_n 0, 1) := by decide +kernel
theorem dX7_groupCount_23 : decode cX7_groupCount 23 = .ok (.iload_n 2, 1) := by decide +kernel
theorem dX7_groupCount_24 : decode cX7_groupCount 24 = .ok (.invokevirtual 173, 3) := by decide +kernel
theorem dX7_groupCount_27 : decode cX7_groupCount 27 = .ok (.invokestatic 110, 3) := by decide +kernel
theorem dX7_groupCount_30 : decode cX7_groupCount 30 = .ok (.iload_n 2, 1) := by decide +kernel
theorem dX7_groupCount_31 : decode cX7_groupCount 31 = .ok (.if_icmp .ne 7, 3) := by decide +kernel
theorem dX7_groupCount_34 : decode cX7_groupCount 34 = .ok (.iconst 1, 1) := by decide +kernel
theorem dX7_groupCount_35 : decode cX7_groupCount 35 = .ok (.goto 4, 3) := by decide +kernel
theorem dX7_groupCount_38 : decode cX7_groupCount 38 = .ok (.iconst 0, 1) := by decide +kernel
theorem dX7_groupCount_39 : decode cX7_groupCount 39 = .ok (.iadd, 1) := by decide +kernel
theorem dX7_groupCount_40 : decode cX7_groupCount 40 = .ok (.istore_n 1, 1) := by decide +kernel
theorem dX7_groupCount_41 : decode cX7_groupCount 41 = .ok (.iinc 2 1, 3) := by decide +kernel
theorem dX7_groupCount_44 : decode cX7_groupCount 44 = .ok (.goto (-40), 3) := by decide +kernel
theorem dX7_groupCount_47 : decode cX7_groupCount 47 = .ok (.iload_n 1, 1) := by decide +kernel
theorem dX7_groupCount_48 : decode cX7_groupCount 48 = .ok (.ireturn, 1) := by decide +kernel
def fX7_groupCount_4   (m : Md) : Nat → Int32 → Int32 → Int32 × Int32
  | 0, x2, x1 => (x2, x1)
  | fu + 1, x2, x1 => (if (fX7_count m ) ≤ x2 then (x2, x1) else (if (fX7_isIn m x2 1) = 0 then (fX7_groupCount_4   m fu (x2 + 1) (x1 + 0) ) else (if (fX7_lowest (fX7_together m x2)) = x2 then (fX7_groupCount_4   m fu (x2 + 1) (x1 + 1) ) else (fX7_groupCount_4   m fu (x2 + 1) (x1 + 0) ))))
def sX7_groupCount_4   (m : Md) : Nat → Int32 → Int32 → Prop
  | 0, _, _ => True
  | fu + 1, x2, x1 => (((fX7_count m ) ≤ x2 → True) ∧ (¬ (fX7_count m ) ≤ x2 → ((sX7_isIn m x2 1) ∧ (((fX7_isIn m x2 1) = 0 → (sX7_groupCount_4   m fu (x2 + 1) (x1 + 0) )) ∧ (¬ (fX7_isIn m x2 1) = 0 → ((sX7_together m x2) ∧ ((sX7_lowest (fX7_together m x2)) ∧ (((fX7_lowest (fX7_together m x2)) = x2 → (sX7_groupCount_4   m fu (x2 + 1) (x1 + 1) )) ∧ (¬ (fX7_lowest (fX7_together m x2)) = x2 → (sX7_groupCount_4   m fu (x2 + 1) (x1 + 0) ))))))))))
set_option maxRecDepth 20000 in
theorem wX7_groupCount_4 {l : Launch} {G : GM} {K : Nat → Option va_E}    {h : List va_E} {m : Md} (hm : HM G K h m) {Q : Option Value → List va_E → Prop} : ∀ (fu : Nat) (x2 x1 : Int32) (iv : ivU (fX7_count m ) x2 fu) (hs : sX7_groupCount_4   m fu x2 x1 ) (kx : ∀ (r : Int32 × Int32), (fX7_groupCount_4   m fu x2 x1 ) = r → Tr l G mX7_groupCount 6 0 0 47 [(2, .int r.1), (1, .int r.2), (0, .ref (gz G + 221))] [] h Q), Tr l G mX7_groupCount 6 0 0 4 [(2, .int x2), (1, .int x1), (0, .ref (gz G + 221))] [] h Q := by
  intro fu
  induction fu with
  | zero => intro x2 x1 iv; intros; exact absurd iv ivU_0
  | succ fu ih =>
    intro x2 x1 iv hs    kx
    rw [sX7_groupCount_4] at hs
    refine am_iload_n dX7_groupCount_4 0 rfl ?_
    refine am_aload_n dX7_groupCount_5 2 rfl ?_
    refine am_callV (As := []) (rest := [.int x2]) dX7_groupCount_6 kMX7_85 rfl (hmc221 (m := m) hm) rfl rfl (Nat.le_of_ble_eq_true rfl) (d2 := 0) (by decide) (k2 := 0) (Nat.zero_le _) (u2 := 0) (Nat.zero_le _) (Nat.le_of_ble_eq_true rfl) (ctX7_count (m := m) hm  ) (fun v1 h2 q3 => ?_)
    obtain ⟨rfl, rfl⟩ := q3
    refine am_icmp_ge dX7_groupCount_9 (by decide : ((9 : Nat) : Int) + (38) = ((47 : Nat) : Int)) (fun c4 => ?_) (fun c4 => ?_)
    · have hs := hs.1 c4
      exact kx _ (ifp c4 (rfl))
    · have hs := hs.2 c4
      refine am_iload_n dX7_groupCount_12 1 rfl ?_
      refine am_aload_n dX7_groupCount_13 2 rfl ?_
      refine am_iload_n dX7_groupCount_14 0 rfl ?_
      refine am_iconst (v := 1) dX7_groupCount_15 (by decide) ?_
      obtain ⟨i5, hs⟩ := hs
      refine am_callV (As := [.int x2, .int 1]) (rest := [.int x1]) dX7_groupCount_16 kMX7_89 rfl (hmc221 (m := m) hm) rfl rfl (Nat.le_of_ble_eq_true rfl) (d2 := 2) (by decide) (k2 := 0) (Nat.zero_le _) (u2 := 0) (Nat.zero_le _) (Nat.le_of_ble_eq_true rfl) (ctX7_isIn (m := m) hm x2 1 i5) (fun v6 h7 q8 => ?_)
      obtain ⟨rfl, rfl⟩ := q8
      refine am_if_eq dX7_groupCount_19 (by decide : ((19 : Nat) : Int) + (19) = ((38 : Nat) : Int)) (fun c9 => ?_) (fun c9 => ?_)
      · have hs := hs.1 c9
        refine am_iconst (v := 0) dX7_groupCount_38 (by decide) ?_
        refine am_iadd dX7_groupCount_39 ?_
        refine am_istore_n dX7_groupCount_40 (by decide) (lv' := [(1, .int (x1 + 0)), (2, .int x2), (0, .ref (gz G + 221))]) rfl ?_
        refine am_iinc (v := (x2 + 1)) dX7_groupCount_41 1 rfl rfl (by decide) (lv' := [(2, .int (x2 + 1)), (1, .int (x1 + 0)), (0, .ref (gz G + 221))]) rfl ?_
        refine am_goto dX7_groupCount_44 (by decide : ((44 : Nat) : Int) + (-40) = ((4 : Nat) : Int)) ?_
        exact ih (x2 + 1) (x1 + 0) (ivU_s c4 iv) hs (fun r e => kx r (Eq.trans (ifn c4 (ifp c9 (rfl))) e))
      · have hs := hs.2 c9
        refine am_aload_n dX7_groupCount_22 2 rfl ?_
        refine am_iload_n dX7_groupCount_23 0 rfl ?_
        obtain ⟨i10, hs⟩ := hs
        refine am_callV (As := [.int x2]) (rest := [.int x1]) dX7_groupCount_24 kMX7_173 rfl (hmc221 (m := m) hm) rfl rfl (Nat.le_of_ble_eq_true rfl) (d2 := 5) (by decide) (k2 := 0) (Nat.zero_le _) (u2 := 0) (Nat.zero_le _) (Nat.le_of_ble_eq_true rfl) (ctX7_together (m := m) hm x2 i10) (fun v11 h12 q13 => ?_)
        obtain ⟨rfl, rfl⟩ := q13
        obtain ⟨i14, hs⟩ := hs
        refine am_callS (As := [.int (fX7_together m x2)]) (rest := [.int x1]) dX7_groupCount_27 kMX7_110 rfl  rfl (Nat.le_of_ble_eq_true rfl) (d2 := 1) (by decide) (k2 := 0) (Nat.zero_le _) (u2 := 0) (Nat.zero_le _) (Nat.le_of_ble_eq_true rfl) (ctX7_lowest  (fX7_together m x2) i14) (fun v15 h16 q17 => ?_)
        obtain ⟨rfl, rfl⟩ := q17
        refine am_iload_n dX7_groupCount_30 0 rfl ?_
        refine am_icmp_ne dX7_groupCount_31 (by decide : ((31 : Nat) : Int) + (7) = ((38 : Nat) : Int)) (fun c18 => ?_) (fun c18 => ?_)
        · have hs := hs.2 c18
          refine am_iconst (v := 0) dX7_groupCount_38 (by decide) ?_
          refine am_iadd dX7_groupCount_39 ?_
          refine am_istore_n dX7_groupCount_40 (by decide) (lv' := [(1, .int (x1 + 0)), (2, .int x2), (0, .ref (gz G + 221))]) rfl ?_
          refine am_iinc (v := (x2 + 1)) dX7_groupCount_41 1 rfl rfl (by decide) (lv' := [(2, .int (x2 + 1)), (1, .int (x1 + 0)), (0, .ref (gz G + 221))]) rfl ?_
          refine am_goto dX7_groupCount_44 (by decide : ((44 : Nat) : Int) + (-40) = ((4 : Nat) : Int)) ?_
          exact ih (x2 + 1) (x1 + 0) (ivU_s c4 iv) hs (fun r e => kx r (Eq.trans (ifn c4 (ifn c9 (ifn c18 (rfl)))) e))
        · have hs := hs.1 c18
          refine am_iconst (v := 1) dX7_groupCount_34 (by decide) ?_
          refine am_goto dX7_groupCount_35 (by decide : ((35 : Nat) : Int) + (4) = ((39 : Nat) : Int)) ?_
          refine am_iadd dX7_groupCount_39 ?_
          refine am_istore_n dX7_groupCount_40 (by decide) (lv' := [(1, .int (x1 + 1)), (2, .int x2), (0, .ref (gz G + 221))]) rfl ?_
          refine am_iinc (v := (x2 + 1)) dX7_groupCount_41 1 rfl rfl (by decide) (lv' := [(2, .int (x2 + 1)), (1, .int (x1 + 1)), (0, .ref (gz G + 221))]) rfl ?_
          refine am_goto dX7_groupCount_44 (by decide : ((44 : Nat) : Int) + (-40) = ((4 : Nat) : Int)) ?_
          exact ih (x2 + 1) (x1 + 1) (ivU_s c4 iv) hs (fun r e => kx r (Eq.trans (ifn c4 (ifn c9 (ifp c18 (rfl)))) e))
def fX7_groupCount (m : Md)  : Int32 := (bnd (fX7_groupCount_4   m (fuU (fX7_count m ) 0) 0 0 ) (fun r20 => r20.2))
def sX7_groupCount (m : Md)  : Prop := ((sX7_groupCount_4   m (fuU (fX7_count m ) 0) 0 0 ) ∧ bnd (fX7_groupCount_4   m (fuU (fX7_count m ) 0) 0 0 ) (fun r20 => True))
set_option maxRecDepth 20000 in
theorem ctX7_groupCount {l : Launch} {G : GM} {K : Nat → Option va_E} {h : List va_E} {m : Md} (hm : HM G K h m)  (hs : sX7_groupCount m ) : Ct l G mX7_groupCount 6 0 0 [.ref (gz G + 221)] h (fun v h1 => v = some (.int (fX7_groupCount m )) ∧ h1 = h) := by
  show Tr l G mX7_groupCount 6 0 0 0 [(0, .ref (gz G + 221))] [] h _
  unfold sX7_groupCount at hs
  refine am_iconst (v := 0) dX7_groupCount_0 (by decide) ?_
  refine am_istore_n dX7_groupCount_1 (by decide) (lv' := [(1, .int 0), (0, .ref (gz G + 221))]) rfl ?_
  refine am_iconst (v := 0) dX7_groupCount_2 (by decide) ?_
  refine am_istore_n dX7_groupCount_3 (by decide) (lv' := [(2, .int 0), (1, .int 0), (0, .ref (gz G + 221))]) rfl ?_
  obtain ⟨i19, hs⟩ := hs
  refine wX7_groupCount_4    hm (fuU (fX7_count m ) 0) 0 0 ivU_i i19 (fun r20 e21 => ?_)
  have hs := bnd_p e21 hs
  refine am_iload_n dX7_groupCount_47 1 rfl ?_
  rw [show (fX7_groupCount m ) = r20.2 from bnd_eq e21 (rfl)]
  exact am_ireturn dX7_groupCount_48 rfl rfl ⟨rfl, rfl⟩

theorem dX7_groupOf_0 : decode cX7_groupOf 0 = .ok (.aload_n 0, 1) := by decide +kernel
theorem dX7_groupOf_1 : decode cX7_groupOf 1 = .ok (.iload_n 1, 1) := by decide +kernel
theorem dX7_groupOf_2 : decode cX7_groupOf 2 = .ok (.invokevirtual 150, 3) := by decide +kernel
theorem dX7_groupOf_5 : decode cX7_groupOf 5 = .ok (.ifCond .ne 6, 3) := by decide +kernel
theorem dX7_groupOf_8 : decode cX7_groupOf 8 = .ok (.bipush (-2), 2) := by decide +kernel
theorem dX7_groupOf_10 : decode cX7_groupOf 10 = .ok (.ireturn, 1) := by decide +kernel
theorem dX7_groupOf_11 : decode cX7_groupOf 11 = .ok (.aload_n 0, 1) := by decide +kernel
theorem dX7_groupOf_12 : decode cX7_groupOf 12 = .ok (.iload_n 1, 1) := by decide +kernel
theorem dX7_groupOf_13 : decode cX7_groupOf 13 = .ok (.iconst 1, 1) := by decide +kernel
theorem dX7_groupOf_14 : decode cX7_groupOf 14 = .ok (.invokevirtual 89, 3) := by decide +kernel
theorem dX7_groupOf_17 : decode cX7_groupOf 17 = .ok (.ifCond .eq 14, 3) := by decide +kernel
theorem dX7_groupOf_20 : decode cX7_groupOf 20 = .ok (.aload_n 0, 1) := by decide +kernel
theorem dX7_groupOf_21 : decode cX7_groupOf 21 = .ok (.iload_n 1, 1) := by decide +kernel
theorem dX7_groupOf_22 : decode cX7_groupOf 22 = .ok (.invokevirtual 173, 3) := by decide +kernel
theorem dX7_groupOf_25 : decode cX7_groupOf 25 = .ok (.invokestatic 110, 3) := by decide +kernel
theorem dX7_groupOf_28 : decode cX7_groupOf 28 = .ok (.goto 5, 3) := by decide +kernel
theorem dX7_groupOf_31 : decode cX7_groupOf 31 = .ok (.bipush (-6), 2) := by decide +kernel
theorem dX7_groupOf_33 : decode cX7_groupOf 33 = .ok (.ireturn, 1) := by decide +kernel
def fX7_groupOf (m : Md) (z1 : Int32) : Int32 := (if (fX7_isPiece m z1) = 0 then (-2) else (if (fX7_isIn m z1 1) = 0 then (-6) else (fX7_lowest (fX7_together m z1))))
def sX7_groupOf (m : Md) (z1 : Int32) : Prop := ((sX7_isPiece m z1) ∧ (((fX7_isPiece m z1) = 0 → True) ∧ (¬ (fX7_isPiece m z1) = 0 → ((sX7_isIn m z1 1) ∧ (((fX7_isIn m z1 1) = 0 → True) ∧ (¬ (fX7_isIn m z1 1) = 0 → ((sX7_together m z1) ∧ ((sX7_lowest (fX7_together m z1)) ∧ True))))))))
set_option maxRecDepth 20000 in
theorem ctX7_groupOf {l : Launch} {G : GM} {K : Nat → Option va_E} {h : List va_E} {m : Md} (hm : HM G K h m) (z1 : Int32) (hs : sX7_groupOf m z1) : Ct l G mX7_groupOf 6 0 0 [.ref (gz G + 221), .int z1] h (fun v h1 => v = some (.int (fX7_groupOf m z1)) ∧ h1 = h) := by
  show Tr l G mX7_groupOf 6 0 0 0 [(0, .ref (gz G + 221)), (1, .int z1)] [] h _
  unfold sX7_groupOf at hs
  refine am_aload_n dX7_groupOf_0 0 rfl ?_
  refine am_iload_n dX7_groupOf_1 1 rfl ?_
  obtain ⟨i1, hs⟩ := hs
  refine am_callV (As := [.int z1]) (rest := []) dX7_groupOf_2 kMX7_150 rfl (hmc221 (m := m) hm) rfl rfl (Nat.le_of_ble_eq_true rfl) (d2 := 1) (by decide) (k2 := 0) (Nat.zero_le _) (u2 := 0) (Nat.zero_le _) (Nat.le_of_ble_eq_true rfl) (ctX7_isPiece (m := m) hm z1 i1) (fun v2 h3 q4 => ?_)
  obtain ⟨rfl, rfl⟩ := q4
  refine am_if_ne dX7_groupOf_5 (by decide : ((5 : Nat) : Int) + (6) = ((11 : Nat) : Int)) (fun c5 => ?_) (fun c5 => ?_)
  · have hs := hs.2 c5
    refine am_aload_n dX7_groupOf_11 0 rfl ?_
    refine am_iload_n dX7_groupOf_12 1 rfl ?_
    refine am_iconst (v := 1) dX7_groupOf_13 (by decide) ?_
    obtain ⟨i6, hs⟩ := hs
    refine am_callV (As := [.int z1, .int 1]) (rest := []) dX7_groupOf_14 kMX7_89 rfl (hmc221 (m := m) hm) rfl rfl (Nat.le_of_ble_eq_true rfl) (d2 := 2) (by decide) (k2 := 0) (Nat.zero_le _) (u2 := 0) (Nat.zero_le _) (Nat.le_of_ble_eq_true rfl) (ctX7_isIn (m := m) hm z1 1 i6) (fun v7 h8 q9 => ?_)
    obtain ⟨rfl, rfl⟩ := q9
    refine am_if_eq dX7_groupOf_17 (by decide : ((17 : Nat) : Int) + (14) = ((31 : Nat) : Int)) (fun c10 => ?_) (fun c10 => ?_)
    · have hs := hs.1 c10
      refine am_bipush (v := (-6)) dX7_groupOf_31 (by decide) ?_
      rw [show (fX7_groupOf m z1) = (-6) from ifn c5 (ifp c10 (rfl))]
      exact am_ireturn dX7_groupOf_33 rfl rfl ⟨rfl, rfl⟩
    · have hs := hs.2 c10
      refine am_aload_n dX7_groupOf_20 0 rfl ?_
      refine am_iload_n dX7_groupOf_21 1 rfl ?_
      obtain ⟨i11, hs⟩ := hs
      refine am_callV (As := [.int z1]) (rest := []) dX7_groupOf_22 kMX7_173 rfl (hmc221 (m := m) hm) rfl rfl (Nat.le_of_ble_eq_true rfl) (d2 := 5) (by decide) (k2 := 0) (Nat.zero_le _) (u2 := 0) (Nat.zero_le _) (Nat.le_of_ble_eq_true rfl) (ctX7_together (m := m) hm z1 i11) (fun v12 h13 q14 => ?_)
      obtain ⟨rfl, rfl⟩ := q14
      obtain ⟨i15, hs⟩ := hs
      refine am_callS (As := [.int (fX7_together m z1)]) (rest := []) dX7_groupOf_25 kMX7_110 rfl  rfl (Nat.le_of_ble_eq_true rfl) (d2 := 1) (by decide) (k2 := 0) (Nat.zero_le _) (u2 := 0) (Nat.zero_le _) (Nat.le_of_ble_eq_true rfl) (ctX7_lowest  (fX7_together m z1) i15) (fun v16 h17 q18 => ?_)
      obtain ⟨rfl, rfl⟩ := q18
      refine am_goto dX7_groupOf_28 (by decide : ((28 : Nat) : Int) + (5) = ((33 : Nat) : Int)) ?_
      rw [show (fX7_groupOf m z1) = (fX7_lowest (fX7_together m z1)) from ifn c5 (ifn c10 (rfl))]
      exact am_ireturn dX7_groupOf_33 rfl rfl ⟨rfl, rfl⟩
  · have hs := hs.1 c5
    refine am_bipush (v := (-2)) dX7_groupOf_8 (by decide) ?_
    rw [show (fX7_groupOf m z1) = (-2) from ifp c5 (rfl)]
    exact am_ireturn dX7_groupOf_10 rfl rfl ⟨rfl, rfl⟩

theorem dX7_boxCount_0 : decode cX7_boxCount 0 = .ok (.aload_n 0, 1) := by decide +kernel
theorem dX7_boxCount_1 : decode cX7_boxCount 1 = .ok (.invokevirtual 176, 3) := by decide +kernel
theorem dX7_boxCount_4 : decode cX7_boxCount 4 = .ok (.istore_n 1, 1) := by decide +kernel
theorem dX7_boxCount_5 : decode cX7_boxCount 5 = .ok (.aload_n 0, 1) := by decide +kernel
theorem dX7_boxCount_6 : decode cX7_boxCount 6 = .ok (.getfield 147, 3) := by decide +kernel
theorem dX7_boxCount_9 : decode cX7_boxCount 9 = .ok (.ireturn, 1) := by decide +kernel
def fX7_boxCount (m : Md)  : Int32 × Md := (bnd (fX7_packedSet m ) (fun r5 => ((r5.2.1 1), r5.2)))
def sX7_boxCount (m : Md)  : Prop := ((sX7_packedSet m ) ∧ (bnd (fX7_packedSet m ) (fun r5 => True)))
set_option maxRecDepth 20000 in
theorem ctX7_boxCount {l : Launch} {G : GM} {K : Nat → Option va_E} {h : List va_E} {m : Md} (hm : HM G K h m)  (hs : sX7_boxCount m ) : Ct l G mX7_boxCount 9 0 0 [.ref (gz G + 221)] h (fun v h1 => ∃ r, (fX7_boxCount m ) = r ∧ v = some (.int r.1) ∧ HM G K h1 r.2) := by
  show Tr l G mX7_boxCount 9 0 0 0 [(0, .ref (gz G + 221))] [] h _
  unfold sX7_boxCount at hs
  refine am_aload_n dX7_boxCount_0 0 rfl ?_
  obtain ⟨i1, hs⟩ := hs
  refine am_callV (As := []) (rest := []) dX7_boxCount_1 kMX7_176 rfl (hmc221 (m := m) hm) rfl rfl (Nat.le_of_ble_eq_true rfl) (d2 := 8) (by decide) (k2 := 0) (Nat.zero_le _) (u2 := 0) (Nat.zero_le _) (Nat.le_of_ble_eq_true rfl) (ctX7_packedSet (m := m) hm  i1) (fun v2 h3 q4 => ?_)
  obtain ⟨r5, e6, rfl, w7⟩ := q4
  have hs := bnd_p e6 hs
  refine am_istore_n dX7_boxCount_4 (by decide) (lv' := [(1, .int r5.1), (0, .ref (gz G + 221))]) rfl ?_
  refine am_aload_n dX7_boxCount_5 1 rfl ?_
  refine am_get (v := .int (r5.2.1 1)) dX7_boxCount_6 kGX7_147 (hmc221 (m := r5.2) w7) rfl ?_
  exact am_ireturn dX7_boxCount_9 rfl rfl ⟨_, bnd_eq e6 (rfl), rfl, w7⟩

theorem dX7_ifDays_0 : decode cX7_ifDays 0 = .ok (.iload_n 1, 1) := by decide +kernel
theorem dX7_ifDays_1 : decode cX7_ifDays 1 = .ok (.i2l, 1) := by decide +kernel
theorem dX7_ifDays_2 : decode cX7_ifDays 2 = .ok (.lconst 0, 1) := by decide +kernel
theorem dX7_ifDays_3 : decode cX7_ifDays 3 = .ok (.ldc2_w 179, 3) := by decide +kernel
theorem dX7_ifDays_6 : decode cX7_ifDays 6 = .ok (.invokestatic 56, 3) := by decide +kernel
theorem dX7_ifDays_9 : decode cX7_ifDays 9 = .ok (.ifCond .ne 6, 3) := by decide +kernel
theorem dX7_ifDays_12 : decode cX7_ifDays 12 = .ok (.bipush (-2), 2) := by decide +kernel
theorem dX7_ifDays_14 : decode cX7_ifDays 14 = .ok (.ireturn, 1) := by decide +kernel
theorem dX7_ifDays_15 : decode cX7_ifDays 15 = .ok (.aload_n 0, 1) := by decide +kernel
theorem dX7_ifDays_16 : decode cX7_ifDays 16 = .ok (.invokevirtual 181, 3) := by decide +kernel
theorem dX7_ifDays_19 : decode cX7_ifDays 19 = .ok (.iconst 0, 1) := by decide +kernel
theorem dX7_ifDays_20 : decode cX7_ifDays 20 = .ok (.istore_n 2, 1) := by decide +kernel
theorem dX7_ifDays_21 : decode cX7_ifDays 21 = .ok (.iload_n 2, 1) := by decide +kernel
theorem dX7_ifDays_22 : decode cX7_ifDays 22 = .ok (.iload_n 1, 1) := by decide +kernel
theorem dX7_ifDays_23 : decode cX7_ifDays 23 = .ok (.if_icmp .ge 14, 3) := by decide +kernel
theorem dX7_ifDays_26 : decode cX7_ifDays 26 = .ok (.aload_n 0, 1) := by decide +kernel
theorem dX7_ifDays_27 : decode cX7_ifDays 27 = .ok (.invokevirtual 184, 3) := by decide +kernel
theorem dX7_ifDays_30 : decode cX7_ifDays 30 = .ok (.istore_n 3, 1) := by decide +kernel
theorem dX7_ifDays_31 : decode cX7_ifDays 31 = .ok (.iinc 2 1, 3) := by decide +kernel
theorem dX7_ifDays_34 : decode cX7_ifDays 34 = .ok (.goto (-13), 3) := by decide +kernel
theorem dX7_ifDays_37 : decode cX7_ifDays 37 = .ok (.aload_n 0, 1) := by decide +kernel
theorem dX7_ifDays_38 : decode cX7_ifDays 38 = .ok (.invokevirtual 124, 3) := by decide +kernel
theorem dX7_ifDays_41 : decode cX7_ifDays 41 = .ok (.istore_n 2, 1) := by decide +kernel
theorem dX7_ifDays_42 : decode cX7_ifDays 42 = .ok (.aload_n 0, 1) := by decide +kernel
theorem dX7_ifDays_43 : decode cX7_ifDays 43 = .ok (.aload_n 0, 1) := by decide +kernel
theorem dX7_ifDays_44 : decode cX7_ifDays 44 = .ok (.getfield 13, 3) := by decide +kernel
theorem dX7_ifDays_47 : decode cX7_ifDays 47 = .ok (.putfield 23, 3) := by decide +kernel
theorem dX7_ifDays_50 : decode cX7_ifDays 50 = .ok (.iload_n 2, 1) := by decide +kernel
theorem dX7_ifDays_51 : decode cX7_ifDays 51 = .ok (.ireturn, 1) := by decide +kernel
def fX7_ifDays_21 (z1 : Int32)  : Nat → Int32 → Md → Int32 × Md
  | 0, x2, y => (x2, y)
  | fu + 1, x2, y => (if z1 ≤ x2 then (x2, y) else (bnd (fX7_pass y ) (fun r17 => (fX7_ifDays_21 z1   fu (x2 + 1) r17.2))))
def sX7_ifDays_21 (z1 : Int32)  : Nat → Int32 → Md → Prop
  | 0, _, _ => True
  | fu + 1, x2, y => ((z1 ≤ x2 → True) ∧ (¬ z1 ≤ x2 → ((sX7_pass y ) ∧ (bnd (fX7_pass y ) (fun r17 => (sX7_ifDays_21 z1   fu (x2 + 1) r17.2))))))
set_option maxRecDepth 20000 in
theorem wX7_ifDays_21 {l : Launch} {G : GM} {K : Nat → Option va_E} (z1 : Int32)   {Q : Option Value → List va_E → Prop} : ∀ (fu : Nat) (x2 : Int32) (y : Md) (iv : ivU z1 x2 fu) (hs : sX7_ifDays_21 z1   fu x2 y) {h : List va_E} (gy : HM G K h y) (kx : ∀ (h1 : List va_E) (r : Int32 × Md), (fX7_ifDays_21 z1   fu x2 y) = r → HM G K h1 r.2 → Tr l G mX7_ifDays 7 0 0 37 [(2, .int r.1), (0, .ref (gz G + 221)), (1, .int z1)] [] h1 Q), Tr l G mX7_ifDays 7 0 0 21 [(2, .int x2), (0, .ref (gz G + 221)), (1, .int z1)] [] h Q := by
  intro fu
  induction fu with
  | zero => intro x2 y iv; intros; exact absurd iv ivU_0
  | succ fu ih =>
    intro x2 y iv hs  h gy  kx
    rw [sX7_ifDays_21] at hs
    refine am_iload_n dX7_ifDays_21 0 rfl ?_
    refine am_iload_n dX7_ifDays_22 2 rfl ?_
    refine am_icmp_ge dX7_ifDays_23 (by decide : ((23 : Nat) : Int) + (14) = ((37 : Nat) : Int)) (fun c12 => ?_) (fun c12 => ?_)
    · have hs := hs.1 c12
      exact kx _ _ (ifp c12 (rfl)) gy 
    · have hs := hs.2 c12
      refine am_aload_n dX7_ifDays_26 1 rfl ?_
      obtain ⟨i13, hs⟩ := hs
      refine am_callV (As := []) (rest := []) dX7_ifDays_27 kMX7_184 rfl (hmc221 (m := y) gy) rfl rfl (Nat.le_of_ble_eq_true rfl) (d2 := 3) (by decide) (k2 := 0) (Nat.zero_le _) (u2 := 0) (Nat.zero_le _) (Nat.le_of_ble_eq_true rfl) (ctX7_pass (m := y) gy  i13) (fun v14 h15 q16 => ?_)
      obtain ⟨r17, e18, rfl, w19⟩ := q16
      have hs := bnd_p e18 hs
      refine am_istore_n dX7_ifDays_30 (by decide) (lv' := [(3, .int r17.1), (2, .int x2), (0, .ref (gz G + 221)), (1, .int z1)]) rfl ?_
      refine am_iinc (v := (x2 + 1)) dX7_ifDays_31 1 rfl rfl (by decide) (lv' := [(2, .int (x2 + 1)), (3, .int r17.1), (0, .ref (gz G + 221)), (1, .int z1)]) rfl ?_
      refine am_goto dX7_ifDays_34 (by decide : ((34 : Nat) : Int) + (-13) = ((21 : Nat) : Int)) ?_
      refine am_lv (lv' := [(2, .int (x2 + 1)), (0, .ref (gz G + 221)), (1, .int z1)]) [0, 2, 3] rfl ?_
      exact ih (x2 + 1) r17.2 (ivU_s c12 iv) hs w19  (fun h1 r e => kx h1 r (Eq.trans (ifn c12 (bnd_eq e18 (rfl))) e))
def fX7_ifDays (m : Md) (z1 : Int32) : Int32 × Md := (if (fX7_in (z1.toInt64) 0 60) = 0 then ((-2), m) else (bnd (fX7_startPrediction m ) (fun r9 => (bnd (fX7_ifDays_21 z1   (fuU z1 0) 0 r9) (fun r21 => (bnd (fX7_countPairs r21.2 ) (fun r29 => (r29.1, (mN r29.2 0)))))))))
def sX7_ifDays (m : Md) (z1 : Int32) : Prop := (((fX7_in (z1.toInt64) 0 60) = 0 → True) ∧ (¬ (fX7_in (z1.toInt64) 0 60) = 0 → ((sX7_startPrediction m ) ∧ (bnd (fX7_startPrediction m ) (fun r9 => ((sX7_ifDays_21 z1   (fuU z1 0) 0 r9) ∧ bnd (fX7_ifDays_21 z1   (fuU z1 0) 0 r9) (fun r21 => ((sX7_countPairs r21.2 ) ∧ (bnd (fX7_countPairs r21.2 ) (fun r29 => True))))))))))
set_option maxRecDepth 20000 in
theorem ctX7_ifDays {l : Launch} {G : GM} {K : Nat → Option va_E} {h : List va_E} {m : Md} (hm : HM G K h m) (z1 : Int32) (hs : sX7_ifDays m z1) : Ct l G mX7_ifDays 7 0 0 [.ref (gz G + 221), .int z1] h (fun v h1 => ∃ r, (fX7_ifDays m z1) = r ∧ v = some (.int r.1) ∧ HM G K h1 r.2) := by
  show Tr l G mX7_ifDays 7 0 0 0 [(0, .ref (gz G + 221)), (1, .int z1)] [] h _
  unfold sX7_ifDays at hs
  refine am_iload_n dX7_ifDays_0 1 rfl ?_
  refine am_i2l (v := z1.toInt64) dX7_ifDays_1 rfl ?_
  refine am_lconst (v := 0) dX7_ifDays_2 (by decide) ?_
  refine am_ldc2 (v := 60) dX7_ifDays_3 kKX7_179 ?_
  refine am_callS (As := [.long (z1.toInt64), .long 0, .long 60]) (rest := []) dX7_ifDays_6 kMX7_56 rfl  rfl (Nat.le_of_ble_eq_true rfl) (d2 := 0) (by decide) (k2 := 0) (Nat.zero_le _) (u2 := 0) (Nat.zero_le _) (Nat.le_of_ble_eq_true rfl) (ctX7_in  (z1.toInt64) 0 60 ) (fun v1 h2 q3 => ?_)
  obtain ⟨rfl, rfl⟩ := q3
  refine am_if_ne dX7_ifDays_9 (by decide : ((9 : Nat) : Int) + (6) = ((15 : Nat) : Int)) (fun c4 => ?_) (fun c4 => ?_)
  · have hs := hs.2 c4
    refine am_aload_n dX7_ifDays_15 0 rfl ?_
    obtain ⟨i5, hs⟩ := hs
    refine am_callV (As := []) (rest := []) dX7_ifDays_16 kMX7_181 rfl (hmc221 (m := m) hm) rfl rfl (Nat.le_of_ble_eq_true rfl) (d2 := 0) (by decide) (k2 := 0) (Nat.zero_le _) (u2 := 0) (Nat.zero_le _) (Nat.le_of_ble_eq_true rfl) (ctX7_startPrediction (m := m) hm  i5) (fun v6 h7 q8 => ?_)
    obtain ⟨r9, e10, rfl, w11⟩ := q8
    have hs := bnd_p e10 hs
    refine am_iconst (v := 0) dX7_ifDays_19 (by decide) ?_
    refine am_istore_n dX7_ifDays_20 (by decide) (lv' := [(2, .int 0), (0, .ref (gz G + 221)), (1, .int z1)]) rfl ?_
    obtain ⟨i20, hs⟩ := hs
    refine wX7_ifDays_21 z1   (fuU z1 0) 0 r9 ivU_i i20 w11  (fun h23 r21 e22 w24  => ?_)
    have hs := bnd_p e22 hs
    refine am_aload_n dX7_ifDays_37 1 rfl ?_
    obtain ⟨i25, hs⟩ := hs
    refine am_callV (As := []) (rest := []) dX7_ifDays_38 kMX7_124 rfl (hmc221 (m := r21.2) w24) rfl rfl (Nat.le_of_ble_eq_true rfl) (d2 := 6) (by decide) (k2 := 0) (Nat.zero_le _) (u2 := 0) (Nat.zero_le _) (Nat.le_of_ble_eq_true rfl) (ctX7_countPairs (m := r21.2) w24  i25) (fun v26 h27 q28 => ?_)
    obtain ⟨r29, e30, rfl, w31⟩ := q28
    have hs := bnd_p e30 hs
    refine am_istore_n dX7_ifDays_41 (by decide) (lv' := [(2, .int r29.1), (0, .ref (gz G + 221)), (1, .int z1)]) rfl ?_
    refine am_aload_n dX7_ifDays_42 1 rfl ?_
    refine am_aload_n dX7_ifDays_43 1 rfl ?_
    refine am_get (v := .ref (gz G + 222)) dX7_ifDays_44 kGX7_13 (hmc221 (m := r29.2) w31) rfl ?_
    refine am_put dX7_ifDays_47 kFX7_23 (hmc221 (m := r29.2) w31) (Nat.le_of_ble_eq_true rfl) rfl rfl ?_
    have w32 := hmNs w31 0 (by decide)
    refine am_iload_n dX7_ifDays_50 0 rfl ?_
    exact am_ireturn dX7_ifDays_51 rfl rfl ⟨_, ifn c4 (bnd_eq e10 (bnd_eq e22 (bnd_eq e30 (rfl)))), rfl, w32⟩
  · have hs := hs.1 c4
    refine am_bipush (v := (-2)) dX7_ifDays_12 (by decide) ?_
    exact am_ireturn dX7_ifDays_14 rfl rfl ⟨_, ifp c4 (rfl), rfl, hm⟩

theorem dX7_bestDay_0 : decode cX7_bestDay 0 = .ok (.iload_n 1, 1) := by decide +kernel
theorem dX7_bestDay_1 : decode cX7_bestDay 1 = .ok (.i2l, 1) := by decide +kernel
theorem dX7_bestDay_2 : decode cX7_bestDay 2 = .ok (.lconst 0, 1) := by decide +kernel
theorem dX7_bestDay_3 : decode cX7_bestDay 3 = .ok (.ldc2_w 179, 3) := by decide +kernel
theorem dX7_bestDay_6 : decode cX7_bestDay 6 = .ok (.invokestatic 56, 3) := by decide +kernel
theorem dX7_bestDay_9 : decode cX7_bestDay 9 = .ok (.ifCond .ne 6, 3) := by decide +kernel
theorem dX7_bestDay_12 : decode cX7_bestDay 12 = .ok (.bipush (-2), 2) := by decide +kernel
theorem dX7_bestDay_14 : decode cX7_bestDay 14 = .ok (.ireturn, 1) := by decide +kernel
theorem dX7_bestDay_15 : decode cX7_bestDay 15 = .ok (.aload_n 0, 1) := by decide +kernel
theorem dX7_bestDay_16 : decode cX7_bestDay 16 = .ok (.invokevirtual 181, 3) := by decide +kernel
theorem dX7_bestDay_19 : decode cX7_bestDay 19 = .ok (.iconst 0, 1) := by decide +kernel
theorem dX7_bestDay_20 : decode cX7_bestDay 20 = .ok (.istore_n 2, 1) := by decide +kernel
theorem dX7_bestDay_21 : decode cX7_bestDay 21 = .ok (.aload_n 0, 1) := by decide +kernel
theorem dX7_bestDay_22 : decode cX7_bestDay 22 = .ok (.invokevirtual 124, 3) := by decide +kernel
theorem dX7_bestDay_25 : decode cX7_bestDay 25 = .ok (.istore_n 3, 1) := by decide +kernel
theorem dX7_bestDay_26 : decode cX7_bestDay 26 = .ok (.iconst 1, 1) := by decide +kernel
theorem dX7_bestDay_27 : decode cX7_bestDay 27 = .ok (.istore 4, 2) := by decide +kernel
theorem dX7_bestDay_29 : decode cX7_bestDay 29 = .ok (.iload 4, 2) := by decide +kernel
theorem dX7_bestDay_31 : decode cX7_bestDay 31 = .ok (.iload_n 1, 1) := by decide +kernel
theorem dX7_bestDay_32 : decode cX7_bestDay 32 = .ok (.if_icmp .gt 36, 3) := by decide +kernel
theorem dX7_bestDay_35 : decode cX7_bestDay 35 = .ok (.aload_n 0, 1) := by decide +kernel
theorem dX7_bestDay_36 : decode cX7_bestDay 36 = .ok (.invokevirtual 184, 3) := by decide +kernel
theorem dX7_bestDay_39 : decode cX7_bestDay 39 = .ok (.istore 5, 2) := by decide +kernel
theorem dX7_bestDay_41 : decode cX7_bestDay 41 = .ok (.aload_n 0, 1) := by decide +kernel
theorem dX7_bestDay_42 : decode cX7_bestDay 42 = .ok (.invokevirtual 124, 3) := by decide +kernel
theorem dX7_bestDay_45 : decode cX7_bestDay 45 = .ok (.istore 6, 2) := by decide +kernel
theorem dX7_bestDay_47 : decode cX7_bestDay 47 = .ok (.iload 6, 2) := by decide +kernel
theorem dX7_bestDay_49 : decode cX7_bestDay 49 = .ok (.iload_n 3, 1) := by decide +kernel
theorem dX7_bestDay_50 : decode cX7_bestDay 50 = .ok (.if_icmp .gt 6, 3) := by decide +kernel
theorem dX7_bestDay_53 : decode cX7_bestDay 53 = .ok (.goto 9, 3) := by decide +kernel
theorem dX7_bestDay_56 : decode cX7_bestDay 56 = .ok (.iload 6, 2) := by decide +kernel
theorem dX7_bestDay_58 : decode cX7_bestDay 58 = .ok (.istore_n 3, 1) := by decide +kernel
theorem dX7_bestDay_59 : decode cX7_bestDay 59 = .ok (.iload 4, 2) := by decide +kernel
theorem dX7_bestDay_61 : decode cX7_bestDay 61 = .ok (.istore_n 2, 1) := by decide +kernel
theorem dX7_bestDay_62 : decode cX7_bestDay 62 = .ok (.iinc 4 1, 3) := by decide +kernel
theorem dX7_bestDay_65 : decode cX7_bestDay 65 = .ok (.goto (-36), 3) := by decide +kernel
theorem dX7_bestDay_68 : decode cX7_bestDay 68 = .ok (.aload_n 0, 1) := by decide +kernel
theorem dX7_bestDay_69 : decode cX7_bestDay 69 = .ok (.aload_n 0, 1) := by decide +kernel
theorem dX7_bestDay_70 : decode cX7_bestDay 70 = .ok (.getfield 13, 3) := by decide +kernel
theorem dX7_bestDay_73 : decode cX7_bestDay 73 = .ok (.putfield 23, 3) := by decide +kernel
theorem dX7_bestDay_76 : decode cX7_bestDay 76 = .ok (.iload_n 2, 1) := by decide +kernel
theorem dX7_bestDay_77 : decode cX7_bestDay 77 = .ok (.ireturn, 1) := by decide +kernel
def fX7_bestDay_29 (z1 : Int32)  : Nat → Int32 → Int32 → Int32 → Md → Int32 × Int32 × Int32 × Md
  | 0, x4, x3, x2, y => (x4, x3, x2, y)
  | fu + 1, x4, x3, x2, y => (if z1 < x4 then (x4, x3, x2, y) else (bnd (fX7_pass y ) (fun r24 => (bnd (fX7_countPairs r24.2 ) (fun r31 => (if x3 < r31.1 then (fX7_bestDay_29 z1   fu (x4 + 1) r31.1 x4 r31.2) else (fX7_bestDay_29 z1   fu (x4 + 1) x3 x2 r31.2)))))))
def sX7_bestDay_29 (z1 : Int32)  : Nat → Int32 → Int32 → Int32 → Md → Prop
  | 0, _, _, _, _ => False
  | fu + 1, x4, x3, x2, y => ((z1 < x4 → True) ∧ (¬ z1 < x4 → ((sX7_pass y ) ∧ (bnd (fX7_pass y ) (fun r24 => ((sX7_countPairs r24.2 ) ∧ (bnd (fX7_countPairs r24.2 ) (fun r31 => ((x3 < r31.1 → (sX7_bestDay_29 z1   fu (x4 + 1) r31.1 x4 r31.2)) ∧ (¬ x3 < r31.1 → (sX7_bestDay_29 z1   fu (x4 + 1) x3 x2 r31.2)))))))))))
set_option maxRecDepth 20000 in
theorem wX7_bestDay_29 {l : Launch} {G : GM} {K : Nat → Option va_E} (z1 : Int32)   {Q : Option Value → List va_E → Prop} : ∀ (fu : Nat) (x4 x3 x2 : Int32) (y : Md) (hs : sX7_bestDay_29 z1   fu x4 x3 x2 y) {h : List va_E} (gy : HM G K h y) (kx : ∀ (h1 : List va_E) (r : Int32 × Int32 × Int32 × Md), (fX7_bestDay_29 z1   fu x4 x3 x2 y) = r → HM G K h1 r.2.2.2 → Tr l G mX7_bestDay 7 0 0 68 [(4, .int r.1), (3, .int r.2.1), (2, .int r.2.2.1), (0, .ref (gz G + 221)), (1, .int z1)] [] h1 Q), Tr l G mX7_bestDay 7 0 0 29 [(4, .int x4), (3, .int x3), (2, .int x2), (0, .ref (gz G + 221)), (1, .int z1)] [] h Q := by
  intro fu
  induction fu with
  | zero => intro x4 x3 x2 y hs; intros; exact (show False from hs).elim
  | succ fu ih =>
    intro x4 x3 x2 y  hs  h gy  kx
    rw [sX7_bestDay_29] at hs
    refine am_iload dX7_bestDay_29 0 rfl ?_
    refine am_iload_n dX7_bestDay_31 4 rfl ?_
    refine am_icmp_gt dX7_bestDay_32 (by decide : ((32 : Nat) : Int) + (36) = ((68 : Nat) : Int)) (fun c19 => ?_) (fun c19 => ?_)
    · have hs := hs.1 c19
      exact kx _ _ (ifp c19 (rfl)) gy 
    · have hs := hs.2 c19
      refine am_aload_n dX7_bestDay_35 3 rfl ?_
      obtain ⟨i20, hs⟩ := hs
      refine am_callV (As := []) (rest := []) dX7_bestDay_36 kMX7_184 rfl (hmc221 (m := y) gy) rfl rfl (Nat.le_of_ble_eq_true rfl) (d2 := 3) (by decide) (k2 := 0) (Nat.zero_le _) (u2 := 0) (Nat.zero_le _) (Nat.le_of_ble_eq_true rfl) (ctX7_pass (m := y) gy  i20) (fun v21 h22 q23 => ?_)
      obtain ⟨r24, e25, rfl, w26⟩ := q23
      have hs := bnd_p e25 hs
      refine am_istore dX7_bestDay_39 (by decide) (lv' := [(5, .int r24.1), (4, .int x4), (3, .int x3), (2, .int x2), (0, .ref (gz G + 221)), (1, .int z1)]) rfl ?_
      refine am_aload_n dX7_bestDay_41 4 rfl ?_
      obtain ⟨i27, hs⟩ := hs
      refine am_callV (As := []) (rest := []) dX7_bestDay_42 kMX7_124 rfl (hmc221 (m := r24.2) w26) rfl rfl (Nat.le_of_ble_eq_true rfl) (d2 := 6) (by decide) (k2 := 0) (Nat.zero_le _) (u2 := 0) (Nat.zero_le _) (Nat.le_of_ble_eq_true rfl) (ctX7_countPairs (m := r24.2) w26  i27) (fun v28 h29 q30 => ?_)
      obtain ⟨r31, e32, rfl, w33⟩ := q30
      have hs := bnd_p e32 hs
      refine am_istore dX7_bestDay_45 (by decide) (lv' := [(6, .int r31.1), (5, .int r24.1), (4, .int x4), (3, .int x3), (2, .int x2), (0, .ref (gz G + 221)), (1, .int z1)]) rfl ?_
      refine am_iload dX7_bestDay_47 0 rfl ?_
      refine am_iload_n dX7_bestDay_49 3 rfl ?_
      refine am_icmp_gt dX7_bestDay_50 (by decide : ((50 : Nat) : Int) + (6) = ((56 : Nat) : Int)) (fun c34 => ?_) (fun c34 => ?_)
      · have hs := hs.1 c34
        refine am_iload dX7_bestDay_56 0 rfl ?_
        refine am_istore_n dX7_bestDay_58 (by decide) (lv' := [(3, .int r31.1), (6, .int r31.1), (5, .int r24.1), (4, .int x4), (2, .int x2), (0, .ref (gz G + 221)), (1, .int z1)]) rfl ?_
        refine am_iload dX7_bestDay_59 3 rfl ?_
        refine am_istore_n dX7_bestDay_61 (by decide) (lv' := [(2, .int x4), (3, .int r31.1), (6, .int r31.1), (5, .int r24.1), (4, .int x4), (0, .ref (gz G + 221)), (1, .int z1)]) rfl ?_
        refine am_iinc (v := (x4 + 1)) dX7_bestDay_62 4 rfl rfl (by decide) (lv' := [(4, .int (x4 + 1)), (2, .int x4), (3, .int r31.1), (6, .int r31.1), (5, .int r24.1), (0, .ref (gz G + 221)), (1, .int z1)]) rfl ?_
        refine am_goto dX7_bestDay_65 (by decide : ((65 : Nat) : Int) + (-36) = ((29 : Nat) : Int)) ?_
        refine am_lv (lv' := [(4, .int (x4 + 1)), (3, .int r31.1), (2, .int x4), (0, .ref (gz G + 221)), (1, .int z1)]) [0, 2, 1, 5, 6] rfl ?_
        exact ih (x4 + 1) r31.1 x4 r31.2  hs w33  (fun h1 r e => kx h1 r (Eq.trans (ifn c19 (bnd_eq e25 (bnd_eq e32 (ifp c34 (rfl))))) e))
      · have hs := hs.2 c34
        refine am_goto dX7_bestDay_53 (by decide : ((53 : Nat) : Int) + (9) = ((62 : Nat) : Int)) ?_
        refine am_iinc (v := (x4 + 1)) dX7_bestDay_62 2 rfl rfl (by decide) (lv' := [(4, .int (x4 + 1)), (6, .int r31.1), (5, .int r24.1), (3, .int x3), (2, .int x2), (0, .ref (gz G + 221)), (1, .int z1)]) rfl ?_
        refine am_goto dX7_bestDay_65 (by decide : ((65 : Nat) : Int) + (-36) = ((29 : Nat) : Int)) ?_
        refine am_lv (lv' := [(4, .int (x4 + 1)), (3, .int x3), (2, .int x2), (0, .ref (gz G + 221)), (1, .int z1)]) [0, 3, 4, 5, 6] rfl ?_
        exact ih (x4 + 1) x3 x2 r31.2  hs w33  (fun h1 r e => kx h1 r (Eq.trans (ifn c19 (bnd_eq e25 (bnd_eq e32 (ifn c34 (rfl))))) e))
def fX7_bestDay (m : Md) (z1 : Int32) : Int32 × Md := (if (fX7_in (z1.toInt64) 0 60) = 0 then ((-2), m) else (bnd (fX7_startPrediction m ) (fun r9 => (bnd (fX7_countPairs r9 ) (fun r16 => (bnd (fX7_bestDay_29 z1   70 1 r16.1 0 r16.2) (fun r36 => (r36.2.2.1, (mN r36.2.2.2 0)))))))))
def sX7_bestDay (m : Md) (z1 : Int32) : Prop := (((fX7_in (z1.toInt64) 0 60) = 0 → True) ∧ (¬ (fX7_in (z1.toInt64) 0 60) = 0 → ((sX7_startPrediction m ) ∧ (bnd (fX7_startPrediction m ) (fun r9 => ((sX7_countPairs r9 ) ∧ (bnd (fX7_countPairs r9 ) (fun r16 => ((sX7_bestDay_29 z1   70 1 r16.1 0 r16.2) ∧ bnd (fX7_bestDay_29 z1   70 1 r16.1 0 r16.2) (fun r36 => True))))))))))
set_option maxRecDepth 20000 in
theorem ctX7_bestDay {l : Launch} {G : GM} {K : Nat → Option va_E} {h : List va_E} {m : Md} (hm : HM G K h m) (z1 : Int32) (hs : sX7_bestDay m z1) : Ct l G mX7_bestDay 7 0 0 [.ref (gz G + 221), .int z1] h (fun v h1 => ∃ r, (fX7_bestDay m z1) = r ∧ v = some (.int r.1) ∧ HM G K h1 r.2) := by
  show Tr l G mX7_bestDay 7 0 0 0 [(0, .ref (gz G + 221)), (1, .int z1)] [] h _
  unfold sX7_bestDay at hs
  refine am_iload_n dX7_bestDay_0 1 rfl ?_
  refine am_i2l (v := z1.toInt64) dX7_bestDay_1 rfl ?_
  refine am_lconst (v := 0) dX7_bestDay_2 (by decide) ?_
  refine am_ldc2 (v := 60) dX7_bestDay_3 kKX7_179 ?_
  refine am_callS (As := [.long (z1.toInt64), .long 0, .long 60]) (rest := []) dX7_bestDay_6 kMX7_56 rfl  rfl (Nat.le_of_ble_eq_true rfl) (d2 := 0) (by decide) (k2 := 0) (Nat.zero_le _) (u2 := 0) (Nat.zero_le _) (Nat.le_of_ble_eq_true rfl) (ctX7_in  (z1.toInt64) 0 60 ) (fun v1 h2 q3 => ?_)
  obtain ⟨rfl, rfl⟩ := q3
  refine am_if_ne dX7_bestDay_9 (by decide : ((9 : Nat) : Int) + (6) = ((15 : Nat) : Int)) (fun c4 => ?_) (fun c4 => ?_)
  · have hs := hs.2 c4
    refine am_aload_n dX7_bestDay_15 0 rfl ?_
    obtain ⟨i5, hs⟩ := hs
    refine am_callV (As := []) (rest := []) dX7_bestDay_16 kMX7_181 rfl (hmc221 (m := m) hm) rfl rfl (Nat.le_of_ble_eq_true rfl) (d2 := 0) (by decide) (k2 := 0) (Nat.zero_le _) (u2 := 0) (Nat.zero_le _) (Nat.le_of_ble_eq_true rfl) (ctX7_startPrediction (m := m) hm  i5) (fun v6 h7 q8 => ?_)
    obtain ⟨r9, e10, rfl, w11⟩ := q8
    have hs := bnd_p e10 hs
    refine am_iconst (v := 0) dX7_bestDay_19 (by decide) ?_
    refine am_istore_n dX7_bestDay_20 (by decide) (lv' := [(2, .int 0), (0, .ref (gz G + 221)), (1, .int z1)]) rfl ?_
    refine am_aload_n dX7_bestDay_21 1 rfl ?_
    obtain ⟨i12, hs⟩ := hs
    refine am_callV (As := []) (rest := []) dX7_bestDay_22 kMX7_124 rfl (hmc221 (m := r9) w11) rfl rfl (Nat.le_of_ble_eq_true rfl) (d2 := 6) (by decide) (k2 := 0) (Nat.zero_le _) (u2 := 0) (Nat.zero_le _) (Nat.le_of_ble_eq_true rfl) (ctX7_countPairs (m := r9) w11  i12) (fun v13 h14 q15 => ?_)
    obtain ⟨r16, e17, rfl, w18⟩ := q15
    have hs := bnd_p e17 hs
    refine am_istore_n dX7_bestDay_25 (by decide) (lv' := [(3, .int r16.1), (2, .int 0), (0, .ref (gz G + 221)), (1, .int z1)]) rfl ?_
    refine am_iconst (v := 1) dX7_bestDay_26 (by decide) ?_
    refine am_istore dX7_bestDay_27 (by decide) (lv' := [(4, .int 1), (3, .int r16.1), (2, .int 0), (0, .ref (gz G + 221)), (1, .int z1)]) rfl ?_
    obtain ⟨i35, hs⟩ := hs
    refine wX7_bestDay_29 z1   70 1 r16.1 0 r16.2  i35 w18  (fun h38 r36 e37 w39  => ?_)
    have hs := bnd_p e37 hs
    refine am_aload_n dX7_bestDay_68 3 rfl ?_
    refine am_aload_n dX7_bestDay_69 3 rfl ?_
    refine am_get (v := .ref (gz G + 222)) dX7_bestDay_70 kGX7_13 (hmc221 (m := r36.2.2.2) w39) rfl ?_
    refine am_put dX7_bestDay_73 kFX7_23 (hmc221 (m := r36.2.2.2) w39) (Nat.le_of_ble_eq_true rfl) rfl rfl ?_
    have w40 := hmNs w39 0 (by decide)
    refine am_iload_n dX7_bestDay_76 2 rfl ?_
    exact am_ireturn dX7_bestDay_77 rfl rfl ⟨_, ifn c4 (bnd_eq e10 (bnd_eq e17 (bnd_eq e37 (rfl)))), rfl, w40⟩
  · have hs := hs.1 c4
    refine am_bipush (v := (-2)) dX7_bestDay_12 (by decide) ?_
    exact am_ireturn dX7_bestDay_14 rfl rfl ⟨_, ifp c4 (rfl), rfl, hm⟩

theorem dX7_pairsOn_0 : decode cX7_pairsOn 0 = .ok (.aload_n 0, 1) := by decide +kernel
theorem dX7_pairsOn_1 : decode cX7_pairsOn 1 = .ok (.invokevirtual 181, 3) := by decide +kernel
theorem dX7_pairsOn_4 : decode cX7_pairsOn 4 = .ok (.aload_n 0, 1) := by decide +kernel
theorem dX7_pairsOn_5 : decode cX7_pairsOn 5 = .ok (.getfield 23, 3) := by decide +kernel
theorem dX7_pairsOn_8 : decode cX7_pairsOn 8 = .ok (.iconst 2, 1) := by decide +kernel
theorem dX7_pairsOn_9 : decode cX7_pairsOn 9 = .ok (.iload_n 2, 1) := by decide +kernel
theorem dX7_pairsOn_10 : decode cX7_pairsOn 10 = .ok (.iastore, 1) := by decide +kernel
theorem dX7_pairsOn_11 : decode cX7_pairsOn 11 = .ok (.aload_n 0, 1) := by decide +kernel
theorem dX7_pairsOn_12 : decode cX7_pairsOn 12 = .ok (.iload_n 1, 1) := by decide +kernel
theorem dX7_pairsOn_13 : decode cX7_pairsOn 13 = .ok (.invokevirtual 187, 3) := by decide +kernel
theorem dX7_pairsOn_16 : decode cX7_pairsOn 16 = .ok (.istore_n 3, 1) := by decide +kernel
theorem dX7_pairsOn_17 : decode cX7_pairsOn 17 = .ok (.aload_n 0, 1) := by decide +kernel
theorem dX7_pairsOn_18 : decode cX7_pairsOn 18 = .ok (.invokevirtual 124, 3) := by decide +kernel
theorem dX7_pairsOn_21 : decode cX7_pairsOn 21 = .ok (.istore 4, 2) := by decide +kernel
theorem dX7_pairsOn_23 : decode cX7_pairsOn 23 = .ok (.aload_n 0, 1) := by decide +kernel
theorem dX7_pairsOn_24 : decode cX7_pairsOn 24 = .ok (.aload_n 0, 1) := by decide +kernel
theorem dX7_pairsOn_25 : decode cX7_pairsOn 25 = .ok (.getfield 13, 3) := by decide +kernel
theorem dX7_pairsOn_28 : decode cX7_pairsOn 28 = .ok (.putfield 23, 3) := by decide +kernel
theorem dX7_pairsOn_31 : decode cX7_pairsOn 31 = .ok (.iload 4, 2) := by decide +kernel
theorem dX7_pairsOn_33 : decode cX7_pairsOn 33 = .ok (.ireturn, 1) := by decide +kernel
def fX7_pairsOn (m : Md) (z1 : Int32) (z2 : Int32) : Int32 × Md := (bnd (fX7_startPrediction m ) (fun r5 => (bnd (mA r5 (r5.2.2) (upd (r5.2.1 (r5.2.2)) 2 z2)) (fun r9 => (bnd (fX7_putAll r9 z1) (fun r16 => (bnd (fX7_countPairs r16.2 ) (fun r23 => (r23.1, (mN r23.2 0))))))))))
def sX7_pairsOn (m : Md) (z1 : Int32) (z2 : Int32) : Prop := ((sX7_startPrediction m ) ∧ (bnd (fX7_startPrediction m ) (fun r5 => (bnd (mA r5 (r5.2.2) (upd (r5.2.1 (r5.2.2)) 2 z2)) (fun r9 => ((sX7_putAll r9 z1) ∧ (bnd (fX7_putAll r9 z1) (fun r16 => ((sX7_countPairs r16.2 ) ∧ (bnd (fX7_countPairs r16.2 ) (fun r23 => True)))))))))))
set_option maxRecDepth 20000 in
theorem ctX7_pairsOn {l : Launch} {G : GM} {K : Nat → Option va_E} {h : List va_E} {m : Md} (hm : HM G K h m) (z1 : Int32) (z2 : Int32) (hs : sX7_pairsOn m z1 z2) : Ct l G mX7_pairsOn 7 0 0 [.ref (gz G + 221), .int z1, .int z2] h (fun v h1 => ∃ r, (fX7_pairsOn m z1 z2) = r ∧ v = some (.int r.1) ∧ HM G K h1 r.2) := by
  show Tr l G mX7_pairsOn 7 0 0 0 [(0, .ref (gz G + 221)), (1, .int z1), (2, .int z2)] [] h _
  unfold sX7_pairsOn at hs
  refine am_aload_n dX7_pairsOn_0 0 rfl ?_
  obtain ⟨i1, hs⟩ := hs
  refine am_callV (As := []) (rest := []) dX7_pairsOn_1 kMX7_181 rfl (hmc221 (m := m) hm) rfl rfl (Nat.le_of_ble_eq_true rfl) (d2 := 0) (by decide) (k2 := 0) (Nat.zero_le _) (u2 := 0) (Nat.zero_le _) (Nat.le_of_ble_eq_true rfl) (ctX7_startPrediction (m := m) hm  i1) (fun v2 h3 q4 => ?_)
  obtain ⟨r5, e6, rfl, w7⟩ := q4
  have hs := bnd_p e6 hs
  refine am_aload_n dX7_pairsOn_4 0 rfl ?_
  refine am_get (v := .ref (gz G + (222 + (r5.2.2)))) dX7_pairsOn_5 kGX7_23 (hmc221 (m := r5) w7) rfl ?_
  refine am_iconst (v := 2) dX7_pairsOn_8 (by decide) ?_
  refine am_iload_n dX7_pairsOn_9 2 rfl ?_
  refine am_iast (f := (r5.2.1 (r5.2.2))) dX7_pairsOn_10 (hmN (m := r5) w7) (vp_lit (by decide)) ?_
  rw [tl2]
  have w8 := hmNw w7 (upd (r5.2.1 (r5.2.2)) 2 z2)
  obtain ⟨r9, e10⟩ : ∃ x, (mA r5 (r5.2.2) (upd (r5.2.1 (r5.2.2)) 2 z2)) = x := ⟨_, rfl⟩
  have w11 := hm_eq e10 w8
  have hs := bnd_p e10 hs
  refine am_aload_n dX7_pairsOn_11 0 rfl ?_
  refine am_iload_n dX7_pairsOn_12 1 rfl ?_
  obtain ⟨i12, hs⟩ := hs
  refine am_callV (As := [.int z1]) (rest := []) dX7_pairsOn_13 kMX7_187 rfl (hmc221 (m := r9) w11) rfl rfl (Nat.le_of_ble_eq_true rfl) (d2 := 6) (by decide) (k2 := 0) (Nat.zero_le _) (u2 := 0) (Nat.zero_le _) (Nat.le_of_ble_eq_true rfl) (ctX7_putAll (m := r9) w11 z1 i12) (fun v13 h14 q15 => ?_)
  obtain ⟨r16, e17, rfl, w18⟩ := q15
  have hs := bnd_p e17 hs
  refine am_istore_n dX7_pairsOn_16 (by decide) (lv' := [(3, .int r16.1), (0, .ref (gz G + 221)), (1, .int z1), (2, .int z2)]) rfl ?_
  refine am_aload_n dX7_pairsOn_17 1 rfl ?_
  obtain ⟨i19, hs⟩ := hs
  refine am_callV (As := []) (rest := []) dX7_pairsOn_18 kMX7_124 rfl (hmc221 (m := r16.2) w18) rfl rfl (Nat.le_of_ble_eq_true rfl) (d2 := 6) (by decide) (k2 := 0) (Nat.zero_le _) (u2 := 0) (Nat.zero_le _) (Nat.le_of_ble_eq_true rfl) (ctX7_countPairs (m := r16.2) w18  i19) (fun v20 h21 q22 => ?_)
  obtain ⟨r23, e24, rfl, w25⟩ := q22
  have hs := bnd_p e24 hs
  refine am_istore dX7_pairsOn_21 (by decide) (lv' := [(4, .int r23.1), (3, .int r16.1), (0, .ref (gz G + 221)), (1, .int z1), (2, .int z2)]) rfl ?_
  refine am_aload_n dX7_pairsOn_23 2 rfl ?_
  refine am_aload_n dX7_pairsOn_24 2 rfl ?_
  refine am_get (v := .ref (gz G + 222)) dX7_pairsOn_25 kGX7_13 (hmc221 (m := r23.2) w25) rfl ?_
  refine am_put dX7_pairsOn_28 kFX7_23 (hmc221 (m := r23.2) w25) (Nat.le_of_ble_eq_true rfl) rfl rfl ?_
  have w26 := hmNs w25 0 (by decide)
  refine am_iload dX7_pairsOn_31 0 rfl ?_
  exact am_ireturn dX7_pairsOn_33 rfl rfl ⟨_, bnd_eq e6 (bnd_eq e10 (bnd_eq e17 (bnd_eq e24 (rfl)))), rfl, w26⟩

theorem dX7_ifAllBoarded_0 : decode cX7_ifAllBoarded 0 = .ok (.aload_n 0, 1) := by decide +kernel
theorem dX7_ifAllBoarded_1 : decode cX7_ifAllBoarded 1 = .ok (.iload_n 1, 1) := by decide +kernel
theorem dX7_ifAllBoarded_2 : decode cX7_ifAllBoarded 2 = .ok (.invokevirtual 155, 3) := by decide +kernel
theorem dX7_ifAllBoarded_5 : decode cX7_ifAllBoarded 5 = .ok (.ifCond .eq 17, 3) := by decide +kernel
theorem dX7_ifAllBoarded_8 : decode cX7_ifAllBoarded 8 = .ok (.aload_n 0, 1) := by decide +kernel
theorem dX7_ifAllBoarded_9 : decode cX7_ifAllBoarded 9 = .ok (.iload_n 1, 1) := by decide +kernel
theorem dX7_ifAllBoarded_10 : decode cX7_ifAllBoarded 10 = .ok (.aload_n 0, 1) := by decide +kernel
theorem dX7_ifAllBoarded_11 : decode cX7_ifAllBoarded 11 = .ok (.getfield 13, 3) := by decide +kernel
theorem dX7_ifAllBoarded_14 : decode cX7_ifAllBoarded 14 = .ok (.iconst 2, 1) := by decide +kernel
theorem dX7_ifAllBoarded_15 : decode cX7_ifAllBoarded 15 = .ok (.iaload, 1) := by decide +kernel
theorem dX7_ifAllBoarded_16 : decode cX7_ifAllBoarded 16 = .ok (.invokevirtual 190, 3) := by decide +kernel
theorem dX7_ifAllBoarded_19 : decode cX7_ifAllBoarded 19 = .ok (.goto 5, 3) := by decide +kernel
theorem dX7_ifAllBoarded_22 : decode cX7_ifAllBoarded 22 = .ok (.bipush (-2), 2) := by decide +kernel
theorem dX7_ifAllBoarded_24 : decode cX7_ifAllBoarded 24 = .ok (.ireturn, 1) := by decide +kernel
def fX7_ifAllBoarded (m : Md) (z1 : Int32) : Int32 × Md := (if (fX7_isShape m z1) = 0 then ((-2), m) else (bnd (fX7_pairsOn m z1 ((m.2.1 0) 2)) (fun r10 => (r10.1, r10.2))))
def sX7_ifAllBoarded (m : Md) (z1 : Int32) : Prop := ((sX7_isShape m z1) ∧ (((fX7_isShape m z1) = 0 → True) ∧ (¬ (fX7_isShape m z1) = 0 → ((sX7_pairsOn m z1 ((m.2.1 0) 2)) ∧ (bnd (fX7_pairsOn m z1 ((m.2.1 0) 2)) (fun r10 => True))))))
set_option maxRecDepth 20000 in
theorem ctX7_ifAllBoarded {l : Launch} {G : GM} {K : Nat → Option va_E} {h : List va_E} {m : Md} (hm : HM G K h m) (z1 : Int32) (hs : sX7_ifAllBoarded m z1) : Ct l G mX7_ifAllBoarded 8 0 0 [.ref (gz G + 221), .int z1] h (fun v h1 => ∃ r, (fX7_ifAllBoarded m z1) = r ∧ v = some (.int r.1) ∧ HM G K h1 r.2) := by
  show Tr l G mX7_ifAllBoarded 8 0 0 0 [(0, .ref (gz G + 221)), (1, .int z1)] [] h _
  unfold sX7_ifAllBoarded at hs
  refine am_aload_n dX7_ifAllBoarded_0 0 rfl ?_
  refine am_iload_n dX7_ifAllBoarded_1 1 rfl ?_
  obtain ⟨i1, hs⟩ := hs
  refine am_callV (As := [.int z1]) (rest := []) dX7_ifAllBoarded_2 kMX7_155 rfl (hmc221 (m := m) hm) rfl rfl (Nat.le_of_ble_eq_true rfl) (d2 := 1) (by decide) (k2 := 0) (Nat.zero_le _) (u2 := 0) (Nat.zero_le _) (Nat.le_of_ble_eq_true rfl) (ctX7_isShape (m := m) hm z1 i1) (fun v2 h3 q4 => ?_)
  obtain ⟨rfl, rfl⟩ := q4
  refine am_if_eq dX7_ifAllBoarded_5 (by decide : ((5 : Nat) : Int) + (17) = ((22 : Nat) : Int)) (fun c5 => ?_) (fun c5 => ?_)
  · have hs := hs.1 c5
    refine am_bipush (v := (-2)) dX7_ifAllBoarded_22 (by decide) ?_
    exact am_ireturn dX7_ifAllBoarded_24 rfl rfl ⟨_, ifp c5 (rfl), rfl, hm⟩
  · have hs := hs.2 c5
    refine am_aload_n dX7_ifAllBoarded_8 0 rfl ?_
    refine am_iload_n dX7_ifAllBoarded_9 1 rfl ?_
    refine am_aload_n dX7_ifAllBoarded_10 0 rfl ?_
    refine am_get (v := .ref (gz G + 222)) dX7_ifAllBoarded_11 kGX7_13 (hmc221 (m := m) hm) rfl ?_
    refine am_iconst (v := 2) dX7_ifAllBoarded_14 (by decide) ?_
    refine am_iald (f := (m.2.1 0)) dX7_ifAllBoarded_15 (hmc222 (m := m) hm) (vp_lit (by decide)) ?_
    rw [tl2]
    obtain ⟨i6, hs⟩ := hs
    refine am_callV (As := [.int z1, .int ((m.2.1 0) 2)]) (rest := []) dX7_ifAllBoarded_16 kMX7_190 rfl (hmc221 (m := m) hm) rfl rfl (Nat.le_of_ble_eq_true rfl) (d2 := 7) (by decide) (k2 := 0) (Nat.zero_le _) (u2 := 0) (Nat.zero_le _) (Nat.le_of_ble_eq_true rfl) (ctX7_pairsOn (m := m) hm z1 ((m.2.1 0) 2) i6) (fun v7 h8 q9 => ?_)
    obtain ⟨r10, e11, rfl, w12⟩ := q9
    have hs := bnd_p e11 hs
    refine am_goto dX7_ifAllBoarded_19 (by decide : ((19 : Nat) : Int) + (5) = ((24 : Nat) : Int)) ?_
    exact am_ireturn dX7_ifAllBoarded_24 rfl rfl ⟨_, ifn c5 (bnd_eq e11 (rfl)), rfl, w12⟩

theorem dX7_bestShape_0 : decode cX7_bestShape 0 = .ok (.iconst (-1), 1) := by decide +kernel
theorem dX7_bestShape_1 : decode cX7_bestShape 1 = .ok (.istore_n 1, 1) := by decide +kernel
theorem dX7_bestShape_2 : decode cX7_bestShape 2 = .ok (.iconst 0, 1) := by decide +kernel
theorem dX7_bestShape_3 : decode cX7_bestShape 3 = .ok (.istore_n 2, 1) := by decide +kernel
theorem dX7_bestShape_4 : decode cX7_bestShape 4 = .ok (.iconst 0, 1) := by decide +kernel
theorem dX7_bestShape_5 : decode cX7_bestShape 5 = .ok (.istore_n 3, 1) := by decide +kernel
theorem dX7_bestShape_6 : decode cX7_bestShape 6 = .ok (.iload_n 3, 1) := by decide +kernel
theorem dX7_bestShape_7 : decode cX7_bestShape 7 = .ok (.aload_n 0, 1) := by decide +kernel
theorem dX7_bestShape_8 : decode cX7_bestShape 8 = .ok (.getfield 13, 3) := by decide +kernel
theorem dX7_bestShape_11 : decode cX7_bestShape 11 = .ok (.bipush 6, 2) := by decide +kernel
theorem dX7_bestShape_13 : decode cX7_bestShape 13 = .ok (.iaload, 1) := by decide +kernel
theorem dX7_bestShape_14 : decode cX7_bestShape 14 = .ok (.if_icmp .ge 41, 3) := by decide +kernel
theorem dX7_bestShape_17 : decode cX7_bestShape 17 = .ok (.aload_n 0, 1) := by decide +kernel
theorem dX7_bestShape_18 : decode cX7_bestShape 18 = .ok (.iload_n 3, 1) := by decide +kernel
theorem dX7_bestShape_19 : decode cX7_bestShape 19 = .ok (.aload_n 0, 1) := by decide +kernel
theorem dX7_bestShape_20 : decode cX7_bestShape 20 = .ok (.getfield 13, 3) := by decide +kernel
theorem dX7_bestShape_23 : decode cX7_bestShape 23 = .ok (.iconst 2, 1) := by decide +kernel
theorem dX7_bestShape_24 : decode cX7_bestShape 24 = .ok (.iaload, 1) := by decide +kernel
theorem dX7_bestShape_25 : decode cX7_bestShape 25 = .ok (.invokevirtual 190, 3) := by decide +kernel
theorem dX7_bestShape_28 : decode cX7_bestShape 28 = .ok (.istore 4, 2) := by decide +kernel
theorem dX7_bestShape_30 : decode cX7_bestShape 30 = .ok (.iload_n 1, 1) := by decide +kernel
theorem dX7_bestShape_31 : decode cX7_bestShape 31 = .ok (.iconst (-1), 1) := by decide +kernel
theorem dX7_bestShape_32 : decode cX7_bestShape 32 = .ok (.if_icmp .eq 12, 3) := by decide +kernel
theorem dX7_bestShape_35 : decode cX7_bestShape 35 = .ok (.iload 4, 2) := by decide +kernel
theorem dX7_bestShape_37 : decode cX7_bestShape 37 = .ok (.iload_n 2, 1) := by decide +kernel
theorem dX7_bestShape_38 : decode cX7_bestShape 38 = .ok (.if_icmp .gt 6, 3) := by decide +kernel
theorem dX7_bestShape_41 : decode cX7_bestShape 41 = .ok (.goto 8, 3) := by decide +kernel
theorem dX7_bestShape_44 : decode cX7_bestShape 44 = .ok (.iload_n 3, 1) := by decide +kernel
theorem dX7_bestShape_45 : decode cX7_bestShape 45 = .ok (.istore_n 1, 1) := by decide +kernel
theorem dX7_bestShape_46 : decode cX7_bestShape 46 = .ok (.iload 4, 2) := by decide +kernel
theorem dX7_bestShape_48 : decode cX7_bestShape 48 = .ok (.istore_n 2, 1) := by decide +kernel
theorem dX7_bestShape_49 : decode cX7_bestShape 49 = .ok (.iinc 3 1, 3) := by decide +kernel
theorem dX7_bestShape_52 : decode cX7_bestShape 52 = .ok (.goto (-46), 3) := by decide +kernel
theorem dX7_bestShape_55 : decode cX7_bestShape 55 = .ok (.iload_n 1, 1) := by decide +kernel
theorem dX7_bestShape_56 : decode cX7_bestShape 56 = .ok (.ireturn, 1) := by decide +kernel
def fX7_bestShape_6   : Nat → Int32 → Int32 → Int32 → Md → Int32 × Int32 × Int32 × Md
  | 0, x3, x2, x1, y => (x3, x2, x1, y)
  | fu + 1, x3, x2, x1, y => (if ((y.2.1 0) 6) ≤ x3 then (x3, x2, x1, y) else (bnd (fX7_pairsOn y x3 ((y.2.1 0) 2)) (fun r6 => (if x1 = (-1) then (fX7_bestShape_6    fu (x3 + 1) r6.1 x3 r6.2) else (if x2 < r6.1 then (fX7_bestShape_6    fu (x3 + 1) r6.1 x3 r6.2) else (fX7_bestShape_6    fu (x3 + 1) x2 x1 r6.2))))))
def sX7_bestShape_6   : Nat → Int32 → Int32 → Int32 → Md → Prop
  | 0, _, _, _, _ => True
  | fu + 1, x3, x2, x1, y => ((((y.2.1 0) 6) ≤ x3 → True) ∧ (¬ ((y.2.1 0) 6) ≤ x3 → ((sX7_pairsOn y x3 ((y.2.1 0) 2)) ∧ (bnd (fX7_pairsOn y x3 ((y.2.1 0) 2)) (fun r6 => ((x1 = (-1) → (sX7_bestShape_6    fu (x3 + 1) r6.1 x3 r6.2)) ∧ (¬ x1 = (-1) → ((x2 < r6.1 → (sX7_bestShape_6    fu (x3 + 1) r6.1 x3 r6.2)) ∧ (¬ x2 < r6.1 → (sX7_bestShape_6    fu (x3 + 1) x2 x1 r6.2))))))))))
set_option maxRecDepth 20000 in
theorem wX7_bestShape_6 {l : Launch} {G : GM} {K : Nat → Option va_E}    {Q : Option Value → List va_E → Prop} : ∀ (fu : Nat) (x3 x2 x1 : Int32) (y : Md) (iv : ivU 2147483647 x3 fu) (hs : sX7_bestShape_6    fu x3 x2 x1 y) {h : List va_E} (gy : HM G K h y) (kx : ∀ (h1 : List va_E) (r : Int32 × Int32 × Int32 × Md), (fX7_bestShape_6    fu x3 x2 x1 y) = r → HM G K h1 r.2.2.2 → Tr l G mX7_bestShape 8 0 0 55 [(3, .int r.1), (2, .int r.2.1), (1, .int r.2.2.1), (0, .ref (gz G + 221))] [] h1 Q), Tr l G mX7_bestShape 8 0 0 6 [(3, .int x3), (2, .int x2), (1, .int x1), (0, .ref (gz G + 221))] [] h Q := by
  intro fu
  induction fu with
  | zero => intro x3 x2 x1 y iv; intros; exact absurd iv ivU_0
  | succ fu ih =>
    intro x3 x2 x1 y iv hs  h gy  kx
    rw [sX7_bestShape_6] at hs
    refine am_iload_n dX7_bestShape_6 0 rfl ?_
    refine am_aload_n dX7_bestShape_7 3 rfl ?_
    refine am_get (v := .ref (gz G + 222)) dX7_bestShape_8 kGX7_13 (hmc221 (m := y) gy) rfl ?_
    refine am_bipush (v := 6) dX7_bestShape_11 (by decide) ?_
    refine am_iald (f := (y.2.1 0)) dX7_bestShape_13 (hmc222 (m := y) gy) (vp_lit (by decide)) ?_
    rw [tl6]
    refine am_icmp_ge dX7_bestShape_14 (by decide : ((14 : Nat) : Int) + (41) = ((55 : Nat) : Int)) (fun c1 => ?_) (fun c1 => ?_)
    · have hs := hs.1 c1
      exact kx _ _ (ifp c1 (rfl)) gy 
    · have hs := hs.2 c1
      refine am_aload_n dX7_bestShape_17 3 rfl ?_
      refine am_iload_n dX7_bestShape_18 0 rfl ?_
      refine am_aload_n dX7_bestShape_19 3 rfl ?_
      refine am_get (v := .ref (gz G + 222)) dX7_bestShape_20 kGX7_13 (hmc221 (m := y) gy) rfl ?_
      refine am_iconst (v := 2) dX7_bestShape_23 (by decide) ?_
      refine am_iald (f := (y.2.1 0)) dX7_bestShape_24 (hmc222 (m := y) gy) (vp_lit (by decide)) ?_
      rw [tl2]
      obtain ⟨i2, hs⟩ := hs
      refine am_callV (As := [.int x3, .int ((y.2.1 0) 2)]) (rest := []) dX7_bestShape_25 kMX7_190 rfl (hmc221 (m := y) gy) rfl rfl (Nat.le_of_ble_eq_true rfl) (d2 := 7) (by decide) (k2 := 0) (Nat.zero_le _) (u2 := 0) (Nat.zero_le _) (Nat.le_of_ble_eq_true rfl) (ctX7_pairsOn (m := y) gy x3 ((y.2.1 0) 2) i2) (fun v3 h4 q5 => ?_)
      obtain ⟨r6, e7, rfl, w8⟩ := q5
      have hs := bnd_p e7 hs
      refine am_istore dX7_bestShape_28 (by decide) (lv' := [(4, .int r6.1), (3, .int x3), (2, .int x2), (1, .int x1), (0, .ref (gz G + 221))]) rfl ?_
      refine am_iload_n dX7_bestShape_30 3 rfl ?_
      refine am_iconst (v := (-1)) dX7_bestShape_31 (by decide) ?_
      refine am_icmp_eq dX7_bestShape_32 (by decide : ((32 : Nat) : Int) + (12) = ((44 : Nat) : Int)) (fun c9 => ?_) (fun c9 => ?_)
      · have hs := hs.1 c9
        refine am_iload_n dX7_bestShape_44 1 rfl ?_
        refine am_istore_n dX7_bestShape_45 (by decide) (lv' := [(1, .int x3), (4, .int r6.1), (3, .int x3), (2, .int x2), (0, .ref (gz G + 221))]) rfl ?_
        refine am_iload dX7_bestShape_46 1 rfl ?_
        refine am_istore_n dX7_bestShape_48 (by decide) (lv' := [(2, .int r6.1), (1, .int x3), (4, .int r6.1), (3, .int x3), (0, .ref (gz G + 221))]) rfl ?_
        refine am_iinc (v := (x3 + 1)) dX7_bestShape_49 3 rfl rfl (by decide) (lv' := [(3, .int (x3 + 1)), (2, .int r6.1), (1, .int x3), (4, .int r6.1), (0, .ref (gz G + 221))]) rfl ?_
        refine am_goto dX7_bestShape_52 (by decide : ((52 : Nat) : Int) + (-46) = ((6 : Nat) : Int)) ?_
        refine am_lv (lv' := [(3, .int (x3 + 1)), (2, .int r6.1), (1, .int x3), (0, .ref (gz G + 221))]) [0, 1, 2, 4] rfl ?_
        exact ih (x3 + 1) r6.1 x3 r6.2 (ivU_s (iv_top c1) iv) hs w8  (fun h1 r e => kx h1 r (Eq.trans (ifn c1 (bnd_eq e7 (ifp c9 (rfl)))) e))
      · have hs := hs.2 c9
        refine am_iload dX7_bestShape_35 0 rfl ?_
        refine am_iload_n dX7_bestShape_37 2 rfl ?_
        refine am_icmp_gt dX7_bestShape_38 (by decide : ((38 : Nat) : Int) + (6) = ((44 : Nat) : Int)) (fun c10 => ?_) (fun c10 => ?_)
        · have hs := hs.1 c10
          refine am_iload_n dX7_bestShape_44 1 rfl ?_
          refine am_istore_n dX7_bestShape_45 (by decide) (lv' := [(1, .int x3), (4, .int r6.1), (3, .int x3), (2, .int x2), (0, .ref (gz G + 221))]) rfl ?_
          refine am_iload dX7_bestShape_46 1 rfl ?_
          refine am_istore_n dX7_bestShape_48 (by decide) (lv' := [(2, .int r6.1), (1, .int x3), (4, .int r6.1), (3, .int x3), (0, .ref (gz G + 221))]) rfl ?_
          refine am_iinc (v := (x3 + 1)) dX7_bestShape_49 3 rfl rfl (by decide) (lv' := [(3, .int (x3 + 1)), (2, .int r6.1), (1, .int x3), (4, .int r6.1), (0, .ref (gz G + 221))]) rfl ?_
          refine am_goto dX7_bestShape_52 (by decide : ((52 : Nat) : Int) + (-46) = ((6 : Nat) : Int)) ?_
          refine am_lv (lv' := [(3, .int (x3 + 1)), (2, .int r6.1), (1, .int x3), (0, .ref (gz G + 221))]) [0, 1, 2, 4] rfl ?_
          exact ih (x3 + 1) r6.1 x3 r6.2 (ivU_s (iv_top c1) iv) hs w8  (fun h1 r e => kx h1 r (Eq.trans (ifn c1 (bnd_eq e7 (ifn c9 (ifp c10 (rfl))))) e))
        · have hs := hs.2 c10
          refine am_goto dX7_bestShape_41 (by decide : ((41 : Nat) : Int) + (8) = ((49 : Nat) : Int)) ?_
          refine am_iinc (v := (x3 + 1)) dX7_bestShape_49 1 rfl rfl (by decide) (lv' := [(3, .int (x3 + 1)), (4, .int r6.1), (2, .int x2), (1, .int x1), (0, .ref (gz G + 221))]) rfl ?_
          refine am_goto dX7_bestShape_52 (by decide : ((52 : Nat) : Int) + (-46) = ((6 : Nat) : Int)) ?_
          refine am_lv (lv' := [(3, .int (x3 + 1)), (2, .int x2), (1, .int x1), (0, .ref (gz G + 221))]) [0, 2, 3, 4] rfl ?_
          exact ih (x3 + 1) x2 x1 r6.2 (ivU_s (iv_top c1) iv) hs w8  (fun h1 r e => kx h1 r (Eq.trans (ifn c1 (bnd_eq e7 (ifn c9 (ifn c10 (rfl))))) e))
def fX7_bestShape (m : Md)  : Int32 × Md := (bnd (fX7_bestShape_6    (fuU 2147483647 0) 0 0 (-1) m) (fun r12 => (r12.2.2.1, r12.2.2.2)))
def sX7_bestShape (m : Md)  : Prop := ((sX7_bestShape_6    (fuU 2147483647 0) 0 0 (-1) m) ∧ bnd (fX7_bestShape_6    (fuU 2147483647 0) 0 0 (-1) m) (fun r12 => True))
set_option maxRecDepth 20000 in
theorem ctX7_bestShape {l : Launch} {G : GM} {K : Nat → Option va_E} {h : List va_E} {m : Md} (hm : HM G K h m)  (hs : sX7_bestShape m ) : Ct l G mX7_bestShape 8 0 0 [.ref (gz G + 221)] h (fun v h1 => ∃ r, (fX7_bestShape m ) = r ∧ v = some (.int r.1) ∧ HM G K h1 r.2) := by
  show Tr l G mX7_bestShape 8 0 0 0 [(0, .ref (gz G + 221))] [] h _
  unfold sX7_bestShape at hs
  refine am_iconst (v := (-1)) dX7_bestShape_0 (by decide) ?_
  refine am_istore_n dX7_bestShape_1 (by decide) (lv' := [(1, .int (-1)), (0, .ref (gz G + 221))]) rfl ?_
  refine am_iconst (v := 0) dX7_bestShape_2 (by decide) ?_
  refine am_istore_n dX7_bestShape_3 (by decide) (lv' := [(2, .int 0), (1, .int (-1)), (0, .ref (gz G + 221))]) rfl ?_
  refine am_iconst (v := 0) dX7_bestShape_4 (by decide) ?_
  refine am_istore_n dX7_bestShape_5 (by decide) (lv' := [(3, .int 0), (2, .int 0), (1, .int (-1)), (0, .ref (gz G + 221))]) rfl ?_
  obtain ⟨i11, hs⟩ := hs
  refine wX7_bestShape_6    (fuU 2147483647 0) 0 0 (-1) m ivU_i i11 hm  (fun h14 r12 e13 w15  => ?_)
  have hs := bnd_p e13 hs
  refine am_iload_n dX7_bestShape_55 2 rfl ?_
  exact am_ireturn dX7_bestShape_56 rfl rfl ⟨_, bnd_eq e13 (rfl), rfl, w15⟩

theorem dX7_isPairs_0 : decode cX7_isPairs 0 = .ok (.iload_n 0, 1) := by decide +kernel
theorem dX7_isPairs_1 : decode cX7_isPairs 1 = .ok (.i2l, 1) := by decide +kernel
theorem dX7_isPairs_2 : decode cX7_isPairs 2 = .ok (.lconst 1, 1) := by decide +kernel
theorem dX7_isPairs_3 : decode cX7_isPairs 3 = .ok (.ldc2_w 193, 3) := by decide +kernel
theorem dX7_isPairs_6 : decode cX7_isPairs 6 = .ok (.invokestatic 56, 3) := by decide +kernel
theorem dX7_isPairs_9 : decode cX7_isPairs 9 = .ok (.ireturn, 1) := by decide +kernel
def fX7_isPairs (z1 : Int32) : Int32 := (fX7_in (z1.toInt64) 1 7)
def sX7_isPairs (z1 : Int32) : Prop := (narrow .boolean (.int (fX7_in (z1.toInt64) 1 7)) = .int (fX7_in (z1.toInt64) 1 7) ∧ True)
set_option maxRecDepth 20000 in
theorem ctX7_isPairs {l : Launch} {G : GM} {h : List va_E} (z1 : Int32) (hs : sX7_isPairs z1) : Ct l G mX7_isPairs 1 0 0 [.int z1] h (fun v h1 => v = some (.int (fX7_isPairs z1)) ∧ h1 = h) := by
  show Tr l G mX7_isPairs 1 0 0 0 [(0, .int z1)] [] h _
  unfold sX7_isPairs at hs
  refine am_iload_n dX7_isPairs_0 0 rfl ?_
  refine am_i2l (v := z1.toInt64) dX7_isPairs_1 rfl ?_
  refine am_lconst (v := 1) dX7_isPairs_2 (by decide) ?_
  refine am_ldc2 (v := 7) dX7_isPairs_3 kKX7_193 ?_
  refine am_callS (As := [.long (z1.toInt64), .long 1, .long 7]) (rest := []) dX7_isPairs_6 kMX7_56 rfl  rfl (Nat.le_of_ble_eq_true rfl) (d2 := 0) (by decide) (k2 := 0) (Nat.zero_le _) (u2 := 0) (Nat.zero_le _) (Nat.le_of_ble_eq_true rfl) (ctX7_in  (z1.toInt64) 1 7 ) (fun v1 h2 q3 => ?_)
  obtain ⟨rfl, rfl⟩ := q3
  obtain ⟨i4, hs⟩ := hs
  rw [show (fX7_isPairs z1) = (fX7_in (z1.toInt64) 1 7) from rfl]
  exact am_ireturn dX7_isPairs_9 rfl i4 ⟨rfl, rfl⟩

theorem dX7_leastSteam_0 : decode cX7_leastSteam 0 = .ok (.aload_n 0, 1) := by decide +kernel
theorem dX7_leastSteam_1 : decode cX7_leastSteam 1 = .ok (.iload_n 1, 1) := by decide +kernel
theorem dX7_leastSteam_2 : decode cX7_leastSteam 2 = .ok (.invokevirtual 155, 3) := by decide +kernel
theorem dX7_leastSteam_5 : decode cX7_leastSteam 5 = .ok (.ifCond .eq 10, 3) := by decide +kernel
theorem dX7_leastSteam_8 : decode cX7_leastSteam 8 = .ok (.iload_n 2, 1) := by decide +kernel
theorem dX7_leastSteam_9 : decode cX7_leastSteam 9 = .ok (.invokestatic 195, 3) := by decide +kernel
theorem dX7_leastSteam_12 : decode cX7_leastSteam 12 = .ok (.ifCond .ne 6, 3) := by decide +kernel
theorem dX7_leastSteam_15 : decode cX7_leastSteam 15 = .ok (.bipush (-2), 2) := by decide +kernel
theorem dX7_leastSteam_17 : decode cX7_leastSteam 17 = .ok (.ireturn, 1) := by decide +kernel
theorem dX7_leastSteam_18 : decode cX7_leastSteam 18 = .ok (.iconst 0, 1) := by decide +kernel
theorem dX7_leastSteam_19 : decode cX7_leastSteam 19 = .ok (.istore_n 3, 1) := by decide +kernel
theorem dX7_leastSteam_20 : decode cX7_leastSteam 20 = .ok (.iload_n 3, 1) := by decide +kernel
theorem dX7_leastSteam_21 : decode cX7_leastSteam 21 = .ok (.bipush 100, 2) := by decide +kernel
theorem dX7_leastSteam_23 : decode cX7_leastSteam 23 = .ok (.if_icmp .gt 21, 3) := by decide +kernel
theorem dX7_leastSteam_26 : decode cX7_leastSteam 26 = .ok (.aload_n 0, 1) := by decide +kernel
theorem dX7_leastSteam_27 : decode cX7_leastSteam 27 = .ok (.iload_n 1, 1) := by decide +kernel
theorem dX7_leastSteam_28 : decode cX7_leastSteam 28 = .ok (.iload_n 3, 1) := by decide +kernel
theorem dX7_leastSteam_29 : decode cX7_leastSteam 29 = .ok (.invokevirtual 190, 3) := by decide +kernel
theorem dX7_leastSteam_32 : decode cX7_leastSteam 32 = .ok (.iload_n 2, 1) := by decide +kernel
theorem dX7_leastSteam_33 : decode cX7_leastSteam 33 = .ok (.if_icmp .lt 5, 3) := by decide +kernel
theorem dX7_leastSteam_36 : decode cX7_leastSteam 36 = .ok (.iload_n 3, 1) := by decide +kernel
theorem dX7_leastSteam_37 : decode cX7_leastSteam 37 = .ok (.ireturn, 1) := by decide +kernel
theorem dX7_leastSteam_38 : decode cX7_leastSteam 38 = .ok (.iinc 3 1, 3) := by decide +kernel
theorem dX7_leastSteam_41 : decode cX7_leastSteam 41 = .ok (.goto (-21), 3) := by decide +kernel
theorem dX7_leastSteam_44 : decode cX7_leastSteam 44 = .ok (.iconst (-1), 1) := by decide +kernel
theorem dX7_leastSteam_45 : decode cX7_leastSteam 45 = .ok (.ireturn, 1) := by decide +kernel
def fX7_leastSteam_20 (z1 : Int32) (z2 : Int32)  : Nat → Int32 → Md → Int32 × Md
  | 0, _, y => (0, y)
  | fu + 1, x3, y => (if 100 < x3 then ((-1), y) else (bnd (fX7_pairsOn y z1 x3) (fun r16 => (if r16.1 < z2 then (fX7_leastSteam_20 z1 z2   fu (x3 + 1) r16.2) else (x3, r16.2)))))
def sX7_leastSteam_20 (z1 : Int32) (z2 : Int32)  : Nat → Int32 → Md → Prop
  | 0, _, _ => True
  | fu + 1, x3, y => ((100 < x3 → True) ∧ (¬ 100 < x3 → ((sX7_pairsOn y z1 x3) ∧ (bnd (fX7_pairsOn y z1 x3) (fun r16 => ((r16.1 < z2 → (sX7_leastSteam_20 z1 z2   fu (x3 + 1) r16.2)) ∧ (¬ r16.1 < z2 → True)))))))
set_option maxRecDepth 20000 in
theorem wX7_leastSteam_20 {l : Launch} {G : GM} {K : Nat → Option va_E} (z1 : Int32) (z2 : Int32)   : ∀ (fu : Nat) (x3 : Int32) (y : Md) (iv : ivL 100 x3 fu) (hs : sX7_leastSteam_20 z1 z2   fu x3 y) {h : List va_E} (gy : HM G K h y), Tr l G mX7_leastSteam 8 0 0 20 [(3, .int x3), (0, .ref (gz G + 221)), (1, .int z1), (2, .int z2)] [] h (fun v h1 => ∃ r, (fX7_leastSteam_20 z1 z2   fu x3 y) = r ∧ v = some (.int r.1) ∧ HM G K h1 r.2) := by
  intro fu
  induction fu with
  | zero => intro x3 y iv; intros; exact absurd iv ivL_0
  | succ fu ih =>
    intro x3 y iv hs  h gy  
    rw [sX7_leastSteam_20] at hs
    refine am_iload_n dX7_leastSteam_20 0 rfl ?_
    refine am_bipush (v := 100) dX7_leastSteam_21 (by decide) ?_
    refine am_icmp_gt dX7_leastSteam_23 (by decide : ((23 : Nat) : Int) + (21) = ((44 : Nat) : Int)) (fun c11 => ?_) (fun c11 => ?_)
    · have hs := hs.1 c11
      refine am_iconst (v := (-1)) dX7_leastSteam_44 (by decide) ?_
      exact am_ireturn dX7_leastSteam_45 rfl rfl ⟨_, ifp c11 (rfl), rfl, gy⟩
    · have hs := hs.2 c11
      refine am_aload_n dX7_leastSteam_26 1 rfl ?_
      refine am_iload_n dX7_leastSteam_27 2 rfl ?_
      refine am_iload_n dX7_leastSteam_28 0 rfl ?_
      obtain ⟨i12, hs⟩ := hs
      refine am_callV (As := [.int z1, .int x3]) (rest := []) dX7_leastSteam_29 kMX7_190 rfl (hmc221 (m := y) gy) rfl rfl (Nat.le_of_ble_eq_true rfl) (d2 := 7) (by decide) (k2 := 0) (Nat.zero_le _) (u2 := 0) (Nat.zero_le _) (Nat.le_of_ble_eq_true rfl) (ctX7_pairsOn (m := y) gy z1 x3 i12) (fun v13 h14 q15 => ?_)
      obtain ⟨r16, e17, rfl, w18⟩ := q15
      have hs := bnd_p e17 hs
      refine am_iload_n dX7_leastSteam_32 3 rfl ?_
      refine am_icmp_lt dX7_leastSteam_33 (by decide : ((33 : Nat) : Int) + (5) = ((38 : Nat) : Int)) (fun c19 => ?_) (fun c19 => ?_)
      · have hs := hs.1 c19
        refine am_iinc (v := (x3 + 1)) dX7_leastSteam_38 0 rfl rfl (by decide) (lv' := [(3, .int (x3 + 1)), (0, .ref (gz G + 221)), (1, .int z1), (2, .int z2)]) rfl ?_
        refine am_goto dX7_leastSteam_41 (by decide : ((41 : Nat) : Int) + (-21) = ((20 : Nat) : Int)) ?_
        exact am_post (fun v h1 ⟨r, e, q⟩ => ⟨r, Eq.trans (ifn c11 (bnd_eq e17 (ifp c19 (rfl)))) e, q⟩) (ih (x3 + 1) r16.2 (ivL_s c11 (by decide) iv) hs w18 )
      · have hs := hs.2 c19
        refine am_iload_n dX7_leastSteam_36 0 rfl ?_
        exact am_ireturn dX7_leastSteam_37 rfl rfl ⟨_, ifn c11 (bnd_eq e17 (ifn c19 (rfl))), rfl, w18⟩
def fX7_leastSteam (m : Md) (z1 : Int32) (z2 : Int32) : Int32 × Md := (if (fX7_isShape m z1) = 0 then ((-2), m) else (if (fX7_isPairs z2) = 0 then ((-2), m) else (fX7_leastSteam_20 z1 z2   (fuL 100 0) 0 m)))
def sX7_leastSteam (m : Md) (z1 : Int32) (z2 : Int32) : Prop := ((sX7_isShape m z1) ∧ (((fX7_isShape m z1) = 0 → True) ∧ (¬ (fX7_isShape m z1) = 0 → ((sX7_isPairs z2) ∧ (((fX7_isPairs z2) = 0 → True) ∧ (¬ (fX7_isPairs z2) = 0 → (sX7_leastSteam_20 z1 z2   (fuL 100 0) 0 m)))))))
set_option maxRecDepth 20000 in
theorem ctX7_leastSteam {l : Launch} {G : GM} {K : Nat → Option va_E} {h : List va_E} {m : Md} (hm : HM G K h m) (z1 : Int32) (z2 : Int32) (hs : sX7_leastSteam m z1 z2) : Ct l G mX7_leastSteam 8 0 0 [.ref (gz G + 221), .int z1, .int z2] h (fun v h1 => ∃ r, (fX7_leastSteam m z1 z2) = r ∧ v = some (.int r.1) ∧ HM G K h1 r.2) := by
  show Tr l G mX7_leastSteam 8 0 0 0 [(0, .ref (gz G + 221)), (1, .int z1), (2, .int z2)] [] h _
  unfold sX7_leastSteam at hs
  refine am_aload_n dX7_leastSteam_0 0 rfl ?_
  refine am_iload_n dX7_leastSteam_1 1 rfl ?_
  obtain ⟨i1, hs⟩ := hs
  refine am_callV (As := [.int z1]) (rest := []) dX7_leastSteam_2 kMX7_155 rfl (hmc221 (m := m) hm) rfl rfl (Nat.le_of_ble_eq_true rfl) (d2 := 1) (by decide) (k2 := 0) (Nat.zero_le _) (u2 := 0) (Nat.zero_le _) (Nat.le_of_ble_eq_true rfl) (ctX7_isShape (m := m) hm z1 i1) (fun v2 h3 q4 => ?_)
  obtain ⟨rfl, rfl⟩ := q4
  refine am_if_eq dX7_leastSteam_5 (by decide : ((5 : Nat) : Int) + (10) = ((15 : Nat) : Int)) (fun c5 => ?_) (fun c5 => ?_)
  · have hs := hs.1 c5
    refine am_bipush (v := (-2)) dX7_leastSteam_15 (by decide) ?_
    exact am_ireturn dX7_leastSteam_17 rfl rfl ⟨_, ifp c5 (rfl), rfl, hm⟩
  · have hs := hs.2 c5
    refine am_iload_n dX7_leastSteam_8 2 rfl ?_
    obtain ⟨i6, hs⟩ := hs
    refine am_callS (As := [.int z2]) (rest := []) dX7_leastSteam_9 kMX7_195 rfl  rfl (Nat.le_of_ble_eq_true rfl) (d2 := 1) (by decide) (k2 := 0) (Nat.zero_le _) (u2 := 0) (Nat.zero_le _) (Nat.le_of_ble_eq_true rfl) (ctX7_isPairs  z2 i6) (fun v7 h8 q9 => ?_)
    obtain ⟨rfl, rfl⟩ := q9
    refine am_if_ne dX7_leastSteam_12 (by decide : ((12 : Nat) : Int) + (6) = ((18 : Nat) : Int)) (fun c10 => ?_) (fun c10 => ?_)
    · have hs := hs.2 c10
      refine am_iconst (v := 0) dX7_leastSteam_18 (by decide) ?_
      refine am_istore_n dX7_leastSteam_19 (by decide) (lv' := [(3, .int 0), (0, .ref (gz G + 221)), (1, .int z1), (2, .int z2)]) rfl ?_
      exact am_post (fun v h1 ⟨r, e, q⟩ => ⟨r, Eq.trans (ifn c5 (ifn c10 (rfl))) e, q⟩) (wX7_leastSteam_20 z1 z2   (fuL 100 0) 0 m ivL_i hs hm )
    · have hs := hs.1 c10
      refine am_bipush (v := (-2)) dX7_leastSteam_15 (by decide) ?_
      exact am_ireturn dX7_leastSteam_17 rfl rfl ⟨_, ifn c5 (ifp c10 (rfl)), rfl, hm⟩

theorem dX7_pairsWithin_0 : decode cX7_pairsWithin 0 = .ok (.aload_n 0, 1) := by decide +kernel
theorem dX7_pairsWithin_1 : decode cX7_pairsWithin 1 = .ok (.invokevirtual 181, 3) := by decide +kernel
theorem dX7_pairsWithin_4 : decode cX7_pairsWithin 4 = .ok (.aload_n 0, 1) := by decide +kernel
theorem dX7_pairsWithin_5 : decode cX7_pairsWithin 5 = .ok (.getfield 23, 3) := by decide +kernel
theorem dX7_pairsWithin_8 : decode cX7_pairsWithin 8 = .ok (.iconst 0, 1) := by decide +kernel
theorem dX7_pairsWithin_9 : decode cX7_pairsWithin 9 = .ok (.iload_n 1, 1) := by decide +kernel
theorem dX7_pairsWithin_10 : decode cX7_pairsWithin 10 = .ok (.iastore, 1) := by decide +kernel
theorem dX7_pairsWithin_11 : decode cX7_pairsWithin 11 = .ok (.aload_n 0, 1) := by decide +kernel
theorem dX7_pairsWithin_12 : decode cX7_pairsWithin 12 = .ok (.invokevirtual 124, 3) := by decide +kernel
theorem dX7_pairsWithin_15 : decode cX7_pairsWithin 15 = .ok (.istore_n 2, 1) := by decide +kernel
theorem dX7_pairsWithin_16 : decode cX7_pairsWithin 16 = .ok (.aload_n 0, 1) := by decide +kernel
theorem dX7_pairsWithin_17 : decode cX7_pairsWithin 17 = .ok (.aload_n 0, 1) := by decide +kernel
theorem dX7_pairsWithin_18 : decode cX7_pairsWithin 18 = .ok (.getfield 13, 3) := by decide +kernel
theorem dX7_pairsWithin_21 : decode cX7_pairsWithin 21 = .ok (.putfield 23, 3) := by decide +kernel
theorem dX7_pairsWithin_24 : decode cX7_pairsWithin 24 = .ok (.iload_n 2, 1) := by decide +kernel
theorem dX7_pairsWithin_25 : decode cX7_pairsWithin 25 = .ok (.ireturn, 1) := by decide +kernel
def fX7_pairsWithin (m : Md) (z1 : Int32) : Int32 × Md := (bnd (fX7_startPrediction m ) (fun r5 => (bnd (mA r5 (r5.2.2) (upd (r5.2.1 (r5.2.2)) 0 z1)) (fun r9 => (bnd (fX7_countPairs r9 ) (fun r16 => (r16.1, (mN r16.2 0))))))))
def sX7_pairsWithin (m : Md) (z1 : Int32) : Prop := ((sX7_startPrediction m ) ∧ (bnd (fX7_startPrediction m ) (fun r5 => (bnd (mA r5 (r5.2.2) (upd (r5.2.1 (r5.2.2)) 0 z1)) (fun r9 => ((sX7_countPairs r9 ) ∧ (bnd (fX7_countPairs r9 ) (fun r16 => True))))))))
set_option maxRecDepth 20000 in
theorem ctX7_pairsWithin {l : Launch} {G : GM} {K : Nat → Option va_E} {h : List va_E} {m : Md} (hm : HM G K h m) (z1 : Int32) (hs : sX7_pairsWithin m z1) : Ct l G mX7_pairsWithin 7 0 0 [.ref (gz G + 221), .int z1] h (fun v h1 => ∃ r, (fX7_pairsWithin m z1) = r ∧ v = some (.int r.1) ∧ HM G K h1 r.2) := by
  show Tr l G mX7_pairsWithin 7 0 0 0 [(0, .ref (gz G + 221)), (1, .int z1)] [] h _
  unfold sX7_pairsWithin at hs
  refine am_aload_n dX7_pairsWithin_0 0 rfl ?_
  obtain ⟨i1, hs⟩ := hs
  refine am_callV (As := []) (rest := []) dX7_pairsWithin_1 kMX7_181 rfl (hmc221 (m := m) hm) rfl rfl (Nat.le_of_ble_eq_true rfl) (d2 := 0) (by decide) (k2 := 0) (Nat.zero_le _) (u2 := 0) (Nat.zero_le _) (Nat.le_of_ble_eq_true rfl) (ctX7_startPrediction (m := m) hm  i1) (fun v2 h3 q4 => ?_)
  obtain ⟨r5, e6, rfl, w7⟩ := q4
  have hs := bnd_p e6 hs
  refine am_aload_n dX7_pairsWithin_4 0 rfl ?_
  refine am_get (v := .ref (gz G + (222 + (r5.2.2)))) dX7_pairsWithin_5 kGX7_23 (hmc221 (m := r5) w7) rfl ?_
  refine am_iconst (v := 0) dX7_pairsWithin_8 (by decide) ?_
  refine am_iload_n dX7_pairsWithin_9 1 rfl ?_
  refine am_iast (f := (r5.2.1 (r5.2.2))) dX7_pairsWithin_10 (hmN (m := r5) w7) (vp_lit (by decide)) ?_
  rw [tl0]
  have w8 := hmNw w7 (upd (r5.2.1 (r5.2.2)) 0 z1)
  obtain ⟨r9, e10⟩ : ∃ x, (mA r5 (r5.2.2) (upd (r5.2.1 (r5.2.2)) 0 z1)) = x := ⟨_, rfl⟩
  have w11 := hm_eq e10 w8
  have hs := bnd_p e10 hs
  refine am_aload_n dX7_pairsWithin_11 0 rfl ?_
  obtain ⟨i12, hs⟩ := hs
  refine am_callV (As := []) (rest := []) dX7_pairsWithin_12 kMX7_124 rfl (hmc221 (m := r9) w11) rfl rfl (Nat.le_of_ble_eq_true rfl) (d2 := 6) (by decide) (k2 := 0) (Nat.zero_le _) (u2 := 0) (Nat.zero_le _) (Nat.le_of_ble_eq_true rfl) (ctX7_countPairs (m := r9) w11  i12) (fun v13 h14 q15 => ?_)
  obtain ⟨r16, e17, rfl, w18⟩ := q15
  have hs := bnd_p e17 hs
  refine am_istore_n dX7_pairsWithin_15 (by decide) (lv' := [(2, .int r16.1), (0, .ref (gz G + 221)), (1, .int z1)]) rfl ?_
  refine am_aload_n dX7_pairsWithin_16 1 rfl ?_
  refine am_aload_n dX7_pairsWithin_17 1 rfl ?_
  refine am_get (v := .ref (gz G + 222)) dX7_pairsWithin_18 kGX7_13 (hmc221 (m := r16.2) w18) rfl ?_
  refine am_put dX7_pairsWithin_21 kFX7_23 (hmc221 (m := r16.2) w18) (Nat.le_of_ble_eq_true rfl) rfl rfl ?_
  have w19 := hmNs w18 0 (by decide)
  refine am_iload_n dX7_pairsWithin_24 0 rfl ?_
  exact am_ireturn dX7_pairsWithin_25 rfl rfl ⟨_, bnd_eq e6 (bnd_eq e10 (bnd_eq e17 (rfl))), rfl, w19⟩

theorem dX7_leastTolerance_0 : decode cX7_leastTolerance 0 = .ok (.iload_n 1, 1) := by decide +kernel
theorem dX7_leastTolerance_1 : decode cX7_leastTolerance 1 = .ok (.invokestatic 195, 3) := by decide +kernel
theorem dX7_leastTolerance_4 : decode cX7_leastTolerance 4 = .ok (.ifCond .ne 6, 3) := by decide +kernel
theorem dX7_leastTolerance_7 : decode cX7_leastTolerance 7 = .ok (.bipush (-2), 2) := by decide +kernel
theorem dX7_leastTolerance_9 : decode cX7_leastTolerance 9 = .ok (.ireturn, 1) := by decide +kernel
theorem dX7_leastTolerance_10 : decode cX7_leastTolerance 10 = .ok (.aload_n 0, 1) := by decide +kernel
theorem dX7_leastTolerance_11 : decode cX7_leastTolerance 11 = .ok (.sipush 500, 3) := by decide +kernel
theorem dX7_leastTolerance_14 : decode cX7_leastTolerance 14 = .ok (.invokevirtual 198, 3) := by decide +kernel
theorem dX7_leastTolerance_17 : decode cX7_leastTolerance 17 = .ok (.iload_n 1, 1) := by decide +kernel
theorem dX7_leastTolerance_18 : decode cX7_leastTolerance 18 = .ok (.if_icmp .ge 5, 3) := by decide +kernel
theorem dX7_leastTolerance_21 : decode cX7_leastTolerance 21 = .ok (.iconst (-1), 1) := by decide +kernel
theorem dX7_leastTolerance_22 : decode cX7_leastTolerance 22 = .ok (.ireturn, 1) := by decide +kernel
theorem dX7_leastTolerance_23 : decode cX7_leastTolerance 23 = .ok (.iconst 0, 1) := by decide +kernel
theorem dX7_leastTolerance_24 : decode cX7_leastTolerance 24 = .ok (.istore_n 2, 1) := by decide +kernel
theorem dX7_leastTolerance_25 : decode cX7_leastTolerance 25 = .ok (.sipush 500, 3) := by decide +kernel
theorem dX7_leastTolerance_28 : decode cX7_leastTolerance 28 = .ok (.istore_n 3, 1) := by decide +kernel
theorem dX7_leastTolerance_29 : decode cX7_leastTolerance 29 = .ok (.iload_n 2, 1) := by decide +kernel
theorem dX7_leastTolerance_30 : decode cX7_leastTolerance 30 = .ok (.iload_n 3, 1) := by decide +kernel
theorem dX7_leastTolerance_31 : decode cX7_leastTolerance 31 = .ok (.if_icmp .ge 34, 3) := by decide +kernel
theorem dX7_leastTolerance_34 : decode cX7_leastTolerance 34 = .ok (.iload_n 2, 1) := by decide +kernel
theorem dX7_leastTolerance_35 : decode cX7_leastTolerance 35 = .ok (.iload_n 3, 1) := by decide +kernel
theorem dX7_leastTolerance_36 : decode cX7_leastTolerance 36 = .ok (.iadd, 1) := by decide +kernel
theorem dX7_leastTolerance_37 : decode cX7_leastTolerance 37 = .ok (.iconst 2, 1) := by decide +kernel
theorem dX7_leastTolerance_38 : decode cX7_leastTolerance 38 = .ok (.idiv, 1) := by decide +kernel
theorem dX7_leastTolerance_39 : decode cX7_leastTolerance 39 = .ok (.istore 4, 2) := by decide +kernel
theorem dX7_leastTolerance_41 : decode cX7_leastTolerance 41 = .ok (.aload_n 0, 1) := by decide +kernel
theorem dX7_leastTolerance_42 : decode cX7_leastTolerance 42 = .ok (.iload 4, 2) := by decide +kernel
theorem dX7_leastTolerance_44 : decode cX7_leastTolerance 44 = .ok (.invokevirtual 198, 3) := by decide +kernel
theorem dX7_leastTolerance_47 : decode cX7_leastTolerance 47 = .ok (.iload_n 1, 1) := by decide +kernel
theorem dX7_leastTolerance_48 : decode cX7_leastTolerance 48 = .ok (.if_icmp .lt 9, 3) := by decide +kernel
theorem dX7_leastTolerance_51 : decode cX7_leastTolerance 51 = .ok (.iload 4, 2) := by decide +kernel
theorem dX7_leastTolerance_53 : decode cX7_leastTolerance 53 = .ok (.istore_n 3, 1) := by decide +kernel
theorem dX7_leastTolerance_54 : decode cX7_leastTolerance 54 = .ok (.goto 8, 3) := by decide +kernel
theorem dX7_leastTolerance_57 : decode cX7_leastTolerance 57 = .ok (.iload 4, 2) := by decide +kernel
theorem dX7_leastTolerance_59 : decode cX7_leastTolerance 59 = .ok (.iconst 1, 1) := by decide +kernel
theorem dX7_leastTolerance_60 : decode cX7_leastTolerance 60 = .ok (.iadd, 1) := by decide +kernel
theorem dX7_leastTolerance_61 : decode cX7_leastTolerance 61 = .ok (.istore_n 2, 1) := by decide +kernel
theorem dX7_leastTolerance_62 : decode cX7_leastTolerance 62 = .ok (.goto (-33), 3) := by decide +kernel
theorem dX7_leastTolerance_65 : decode cX7_leastTolerance 65 = .ok (.iload_n 2, 1) := by decide +kernel
theorem dX7_leastTolerance_66 : decode cX7_leastTolerance 66 = .ok (.ireturn, 1) := by decide +kernel
def fX7_leastTolerance_29 (z1 : Int32)  : Nat → Int32 → Int32 → Md → Int32 × Int32 × Md
  | 0, x3, x2, y => (x3, x2, y)
  | fu + 1, x3, x2, y => (if x3 ≤ x2 then (x3, x2, y) else (bnd (fX7_pairsWithin y ((x2 + x3) / 2)) (fun r19 => (if r19.1 < z1 then (fX7_leastTolerance_29 z1   fu x3 (((x2 + x3) / 2) + 1) r19.2) else (fX7_leastTolerance_29 z1   fu ((x2 + x3) / 2) x2 r19.2)))))
def sX7_leastTolerance_29 (z1 : Int32)  : Nat → Int32 → Int32 → Md → Prop
  | 0, _, _, _ => False
  | fu + 1, x3, x2, y => ((x3 ≤ x2 → True) ∧ (¬ x3 ≤ x2 → ((sX7_pairsWithin y ((x2 + x3) / 2)) ∧ (bnd (fX7_pairsWithin y ((x2 + x3) / 2)) (fun r19 => ((r19.1 < z1 → (sX7_leastTolerance_29 z1   fu x3 (((x2 + x3) / 2) + 1) r19.2)) ∧ (¬ r19.1 < z1 → (sX7_leastTolerance_29 z1   fu ((x2 + x3) / 2) x2 r19.2))))))))
set_option maxRecDepth 20000 in
theorem wX7_leastTolerance_29 {l : Launch} {G : GM} {K : Nat → Option va_E} (z1 : Int32)   {Q : Option Value → List va_E → Prop} : ∀ (fu : Nat) (x3 x2 : Int32) (y : Md) (hs : sX7_leastTolerance_29 z1   fu x3 x2 y) {h : List va_E} (gy : HM G K h y) (kx : ∀ (h1 : List va_E) (r : Int32 × Int32 × Md), (fX7_leastTolerance_29 z1   fu x3 x2 y) = r → HM G K h1 r.2.2 → Tr l G mX7_leastTolerance 8 0 0 65 [(3, .int r.1), (2, .int r.2.1), (0, .ref (gz G + 221)), (1, .int z1)] [] h1 Q), Tr l G mX7_leastTolerance 8 0 0 29 [(3, .int x3), (2, .int x2), (0, .ref (gz G + 221)), (1, .int z1)] [] h Q := by
  intro fu
  induction fu with
  | zero => intro x3 x2 y hs; intros; exact (show False from hs).elim
  | succ fu ih =>
    intro x3 x2 y  hs  h gy  kx
    rw [sX7_leastTolerance_29] at hs
    refine am_iload_n dX7_leastTolerance_29 1 rfl ?_
    refine am_iload_n dX7_leastTolerance_30 0 rfl ?_
    refine am_icmp_ge dX7_leastTolerance_31 (by decide : ((31 : Nat) : Int) + (34) = ((65 : Nat) : Int)) (fun c14 => ?_) (fun c14 => ?_)
    · have hs := hs.1 c14
      exact kx _ _ (ifp c14 (rfl)) gy 
    · have hs := hs.2 c14
      refine am_iload_n dX7_leastTolerance_34 1 rfl ?_
      refine am_iload_n dX7_leastTolerance_35 0 rfl ?_
      refine am_iadd dX7_leastTolerance_36 ?_
      refine am_iconst (v := 2) dX7_leastTolerance_37 (by decide) ?_
      refine am_idiv dX7_leastTolerance_38 (by decide) ?_
      refine am_istore dX7_leastTolerance_39 (by decide) (lv' := [(4, .int ((x2 + x3) / 2)), (3, .int x3), (2, .int x2), (0, .ref (gz G + 221)), (1, .int z1)]) rfl ?_
      refine am_aload_n dX7_leastTolerance_41 3 rfl ?_
      refine am_iload dX7_leastTolerance_42 0 rfl ?_
      obtain ⟨i15, hs⟩ := hs
      refine am_callV (As := [.int ((x2 + x3) / 2)]) (rest := []) dX7_leastTolerance_44 kMX7_198 rfl (hmc221 (m := y) gy) rfl rfl (Nat.le_of_ble_eq_true rfl) (d2 := 7) (by decide) (k2 := 0) (Nat.zero_le _) (u2 := 0) (Nat.zero_le _) (Nat.le_of_ble_eq_true rfl) (ctX7_pairsWithin (m := y) gy ((x2 + x3) / 2) i15) (fun v16 h17 q18 => ?_)
      obtain ⟨r19, e20, rfl, w21⟩ := q18
      have hs := bnd_p e20 hs
      refine am_iload_n dX7_leastTolerance_47 4 rfl ?_
      refine am_icmp_lt dX7_leastTolerance_48 (by decide : ((48 : Nat) : Int) + (9) = ((57 : Nat) : Int)) (fun c22 => ?_) (fun c22 => ?_)
      · have hs := hs.1 c22
        refine am_iload dX7_leastTolerance_57 0 rfl ?_
        refine am_iconst (v := 1) dX7_leastTolerance_59 (by decide) ?_
        refine am_iadd dX7_leastTolerance_60 ?_
        refine am_istore_n dX7_leastTolerance_61 (by decide) (lv' := [(2, .int (((x2 + x3) / 2) + 1)), (4, .int ((x2 + x3) / 2)), (3, .int x3), (0, .ref (gz G + 221)), (1, .int z1)]) rfl ?_
        refine am_goto dX7_leastTolerance_62 (by decide : ((62 : Nat) : Int) + (-33) = ((29 : Nat) : Int)) ?_
        refine am_lv (lv' := [(3, .int x3), (2, .int (((x2 + x3) / 2) + 1)), (0, .ref (gz G + 221)), (1, .int z1)]) [2, 0, 3, 4] rfl ?_
        exact ih x3 (((x2 + x3) / 2) + 1) r19.2  hs w21  (fun h1 r e => kx h1 r (Eq.trans (ifn c14 (bnd_eq e20 (ifp c22 (rfl)))) e))
      · have hs := hs.2 c22
        refine am_iload dX7_leastTolerance_51 0 rfl ?_
        refine am_istore_n dX7_leastTolerance_53 (by decide) (lv' := [(3, .int ((x2 + x3) / 2)), (4, .int ((x2 + x3) / 2)), (2, .int x2), (0, .ref (gz G + 221)), (1, .int z1)]) rfl ?_
        refine am_goto dX7_leastTolerance_54 (by decide : ((54 : Nat) : Int) + (8) = ((62 : Nat) : Int)) ?_
        refine am_goto dX7_leastTolerance_62 (by decide : ((62 : Nat) : Int) + (-33) = ((29 : Nat) : Int)) ?_
        refine am_lv (lv' := [(3, .int ((x2 + x3) / 2)), (2, .int x2), (0, .ref (gz G + 221)), (1, .int z1)]) [0, 2, 3, 4] rfl ?_
        exact ih ((x2 + x3) / 2) x2 r19.2  hs w21  (fun h1 r e => kx h1 r (Eq.trans (ifn c14 (bnd_eq e20 (ifn c22 (rfl)))) e))
def fX7_leastTolerance (m : Md) (z1 : Int32) : Int32 × Md := (if (fX7_isPairs z1) = 0 then ((-2), m) else (bnd (fX7_pairsWithin m 500) (fun r10 => (if z1 ≤ r10.1 then (bnd (fX7_leastTolerance_29 z1   12 500 0 r10.2) (fun r24 => (r24.2.1, r24.2.2))) else ((-1), r10.2)))))
def sX7_leastTolerance (m : Md) (z1 : Int32) : Prop := ((sX7_isPairs z1) ∧ (((fX7_isPairs z1) = 0 → True) ∧ (¬ (fX7_isPairs z1) = 0 → ((sX7_pairsWithin m 500) ∧ (bnd (fX7_pairsWithin m 500) (fun r10 => ((z1 ≤ r10.1 → ((sX7_leastTolerance_29 z1   12 500 0 r10.2) ∧ bnd (fX7_leastTolerance_29 z1   12 500 0 r10.2) (fun r24 => True))) ∧ (¬ z1 ≤ r10.1 → True))))))))
set_option maxRecDepth 20000 in
theorem ctX7_leastTolerance {l : Launch} {G : GM} {K : Nat → Option va_E} {h : List va_E} {m : Md} (hm : HM G K h m) (z1 : Int32) (hs : sX7_leastTolerance m z1) : Ct l G mX7_leastTolerance 8 0 0 [.ref (gz G + 221), .int z1] h (fun v h1 => ∃ r, (fX7_leastTolerance m z1) = r ∧ v = some (.int r.1) ∧ HM G K h1 r.2) := by
  show Tr l G mX7_leastTolerance 8 0 0 0 [(0, .ref (gz G + 221)), (1, .int z1)] [] h _
  unfold sX7_leastTolerance at hs
  refine am_iload_n dX7_leastTolerance_0 1 rfl ?_
  obtain ⟨i1, hs⟩ := hs
  refine am_callS (As := [.int z1]) (rest := []) dX7_leastTolerance_1 kMX7_195 rfl  rfl (Nat.le_of_ble_eq_true rfl) (d2 := 1) (by decide) (k2 := 0) (Nat.zero_le _) (u2 := 0) (Nat.zero_le _) (Nat.le_of_ble_eq_true rfl) (ctX7_isPairs  z1 i1) (fun v2 h3 q4 => ?_)
  obtain ⟨rfl, rfl⟩ := q4
  refine am_if_ne dX7_leastTolerance_4 (by decide : ((4 : Nat) : Int) + (6) = ((10 : Nat) : Int)) (fun c5 => ?_) (fun c5 => ?_)
  · have hs := hs.2 c5
    refine am_aload_n dX7_leastTolerance_10 0 rfl ?_
    refine am_sipush (v := 500) dX7_leastTolerance_11 (by decide) ?_
    obtain ⟨i6, hs⟩ := hs
    refine am_callV (As := [.int 500]) (rest := []) dX7_leastTolerance_14 kMX7_198 rfl (hmc221 (m := m) hm) rfl rfl (Nat.le_of_ble_eq_true rfl) (d2 := 7) (by decide) (k2 := 0) (Nat.zero_le _) (u2 := 0) (Nat.zero_le _) (Nat.le_of_ble_eq_true rfl) (ctX7_pairsWithin (m := m) hm 500 i6) (fun v7 h8 q9 => ?_)
    obtain ⟨r10, e11, rfl, w12⟩ := q9
    have hs := bnd_p e11 hs
    refine am_iload_n dX7_leastTolerance_17 1 rfl ?_
    refine am_icmp_ge dX7_leastTolerance_18 (by decide : ((18 : Nat) : Int) + (5) = ((23 : Nat) : Int)) (fun c13 => ?_) (fun c13 => ?_)
    · have hs := hs.1 c13
      refine am_iconst (v := 0) dX7_leastTolerance_23 (by decide) ?_
      refine am_istore_n dX7_leastTolerance_24 (by decide) (lv' := [(2, .int 0), (0, .ref (gz G + 221)), (1, .int z1)]) rfl ?_
      refine am_sipush (v := 500) dX7_leastTolerance_25 (by decide) ?_
      refine am_istore_n dX7_leastTolerance_28 (by decide) (lv' := [(3, .int 500), (2, .int 0), (0, .ref (gz G + 221)), (1, .int z1)]) rfl ?_
      obtain ⟨i23, hs⟩ := hs
      refine wX7_leastTolerance_29 z1   12 500 0 r10.2  i23 w12  (fun h26 r24 e25 w27  => ?_)
      have hs := bnd_p e25 hs
      refine am_iload_n dX7_leastTolerance_65 1 rfl ?_
      exact am_ireturn dX7_leastTolerance_66 rfl rfl ⟨_, ifn c5 (bnd_eq e11 (ifp c13 (bnd_eq e25 (rfl)))), rfl, w27⟩
    · have hs := hs.2 c13
      refine am_iconst (v := (-1)) dX7_leastTolerance_21 (by decide) ?_
      exact am_ireturn dX7_leastTolerance_22 rfl rfl ⟨_, ifn c5 (bnd_eq e11 (ifn c13 (rfl))), rfl, w12⟩
  · have hs := hs.1 c5
    refine am_bipush (v := (-2)) dX7_leastTolerance_7 (by decide) ?_
    exact am_ireturn dX7_leastTolerance_9 rfl rfl ⟨_, ifp c5 (rfl), rfl, hm⟩

theorem dX7_pairsDyed_0 : decode cX7_pairsDyed 0 = .ok (.aload_n 0, 1) := by decide +kernel
theorem dX7_pairsDyed_1 : decode cX7_pairsDyed 1 = .ok (.invokevirtual 181, 3) := by decide +kernel
theorem dX7_pairsDyed_4 : decode cX7_pairsDyed 4 = .ok (.aload_n 0, 1) := by decide +kernel
theorem dX7_pairsDyed_5 : decode cX7_pairsDyed 5 = .ok (.getfield 23, 3) := by decide +kernel
theorem dX7_pairsDyed_8 : decode cX7_pairsDyed 8 = .ok (.iload_n 1, 1) := by decide +kernel
theorem dX7_pairsDyed_9 : decode cX7_pairsDyed 9 = .ok (.iconst 4, 1) := by decide +kernel
theorem dX7_pairsDyed_10 : decode cX7_pairsDyed 10 = .ok (.invokestatic 52, 3) := by decide +kernel
theorem dX7_pairsDyed_13 : decode cX7_pairsDyed 13 = .ok (.iload_n 2, 1) := by decide +kernel
theorem dX7_pairsDyed_14 : decode cX7_pairsDyed 14 = .ok (.iastore, 1) := by decide +kernel
theorem dX7_pairsDyed_15 : decode cX7_pairsDyed 15 = .ok (.aload_n 0, 1) := by decide +kernel
theorem dX7_pairsDyed_16 : decode cX7_pairsDyed 16 = .ok (.invokevirtual 124, 3) := by decide +kernel
theorem dX7_pairsDyed_19 : decode cX7_pairsDyed 19 = .ok (.istore_n 3, 1) := by decide +kernel
theorem dX7_pairsDyed_20 : decode cX7_pairsDyed 20 = .ok (.aload_n 0, 1) := by decide +kernel
theorem dX7_pairsDyed_21 : decode cX7_pairsDyed 21 = .ok (.aload_n 0, 1) := by decide +kernel
theorem dX7_pairsDyed_22 : decode cX7_pairsDyed 22 = .ok (.getfield 13, 3) := by decide +kernel
theorem dX7_pairsDyed_25 : decode cX7_pairsDyed 25 = .ok (.putfield 23, 3) := by decide +kernel
theorem dX7_pairsDyed_28 : decode cX7_pairsDyed 28 = .ok (.iload_n 3, 1) := by decide +kernel
theorem dX7_pairsDyed_29 : decode cX7_pairsDyed 29 = .ok (.ireturn, 1) := by decide +kernel
def fX7_pairsDyed (m : Md) (z1 : Int32) (z2 : Int32) : Int32 × Md := (bnd (fX7_startPrediction m ) (fun r5 => (bnd (mA r5 (r5.2.2) (upd (r5.2.1 (r5.2.2)) (fX7_at z1 4).toNatClampNeg z2)) (fun r13 => (bnd (fX7_countPairs r13 ) (fun r20 => (r20.1, (mN r20.2 0))))))))
def sX7_pairsDyed (m : Md) (z1 : Int32) (z2 : Int32) : Prop := ((sX7_startPrediction m ) ∧ (bnd (fX7_startPrediction m ) (fun r5 => (vp_in (fX7_at z1 4) 146 ∧ (bnd (mA r5 (r5.2.2) (upd (r5.2.1 (r5.2.2)) (fX7_at z1 4).toNatClampNeg z2)) (fun r13 => ((sX7_countPairs r13 ) ∧ (bnd (fX7_countPairs r13 ) (fun r20 => True)))))))))
set_option maxRecDepth 20000 in
theorem ctX7_pairsDyed {l : Launch} {G : GM} {K : Nat → Option va_E} {h : List va_E} {m : Md} (hm : HM G K h m) (z1 : Int32) (z2 : Int32) (hs : sX7_pairsDyed m z1 z2) : Ct l G mX7_pairsDyed 7 0 0 [.ref (gz G + 221), .int z1, .int z2] h (fun v h1 => ∃ r, (fX7_pairsDyed m z1 z2) = r ∧ v = some (.int r.1) ∧ HM G K h1 r.2) := by
  show Tr l G mX7_pairsDyed 7 0 0 0 [(0, .ref (gz G + 221)), (1, .int z1), (2, .int z2)] [] h _
  unfold sX7_pairsDyed at hs
  refine am_aload_n dX7_pairsDyed_0 0 rfl ?_
  obtain ⟨i1, hs⟩ := hs
  refine am_callV (As := []) (rest := []) dX7_pairsDyed_1 kMX7_181 rfl (hmc221 (m := m) hm) rfl rfl (Nat.le_of_ble_eq_true rfl) (d2 := 0) (by decide) (k2 := 0) (Nat.zero_le _) (u2 := 0) (Nat.zero_le _) (Nat.le_of_ble_eq_true rfl) (ctX7_startPrediction (m := m) hm  i1) (fun v2 h3 q4 => ?_)
  obtain ⟨r5, e6, rfl, w7⟩ := q4
  have hs := bnd_p e6 hs
  refine am_aload_n dX7_pairsDyed_4 0 rfl ?_
  refine am_get (v := .ref (gz G + (222 + (r5.2.2)))) dX7_pairsDyed_5 kGX7_23 (hmc221 (m := r5) w7) rfl ?_
  refine am_iload_n dX7_pairsDyed_8 1 rfl ?_
  refine am_iconst (v := 4) dX7_pairsDyed_9 (by decide) ?_
  refine am_callS (As := [.int z1, .int 4]) (rest := [.ref (gz G + (222 + (r5.2.2)))]) dX7_pairsDyed_10 kMX7_52 rfl  rfl (Nat.le_of_ble_eq_true rfl) (d2 := 0) (by decide) (k2 := 0) (Nat.zero_le _) (u2 := 0) (Nat.zero_le _) (Nat.le_of_ble_eq_true rfl) (ctX7_at  z1 4 ) (fun v8 h9 q10 => ?_)
  obtain ⟨rfl, rfl⟩ := q10
  refine am_iload_n dX7_pairsDyed_13 2 rfl ?_
  obtain ⟨i11, hs⟩ := hs
  refine am_iast (f := (r5.2.1 (r5.2.2))) dX7_pairsDyed_14 (hmN (m := r5) w7) i11 ?_
  have w12 := hmNw w7 (upd (r5.2.1 (r5.2.2)) (fX7_at z1 4).toNatClampNeg z2)
  obtain ⟨r13, e14⟩ : ∃ x, (mA r5 (r5.2.2) (upd (r5.2.1 (r5.2.2)) (fX7_at z1 4).toNatClampNeg z2)) = x := ⟨_, rfl⟩
  have w15 := hm_eq e14 w12
  have hs := bnd_p e14 hs
  refine am_aload_n dX7_pairsDyed_15 0 rfl ?_
  obtain ⟨i16, hs⟩ := hs
  refine am_callV (As := []) (rest := []) dX7_pairsDyed_16 kMX7_124 rfl (hmc221 (m := r13) w15) rfl rfl (Nat.le_of_ble_eq_true rfl) (d2 := 6) (by decide) (k2 := 0) (Nat.zero_le _) (u2 := 0) (Nat.zero_le _) (Nat.le_of_ble_eq_true rfl) (ctX7_countPairs (m := r13) w15  i16) (fun v17 h18 q19 => ?_)
  obtain ⟨r20, e21, rfl, w22⟩ := q19
  have hs := bnd_p e21 hs
  refine am_istore_n dX7_pairsDyed_19 (by decide) (lv' := [(3, .int r20.1), (0, .ref (gz G + 221)), (1, .int z1), (2, .int z2)]) rfl ?_
  refine am_aload_n dX7_pairsDyed_20 1 rfl ?_
  refine am_aload_n dX7_pairsDyed_21 1 rfl ?_
  refine am_get (v := .ref (gz G + 222)) dX7_pairsDyed_22 kGX7_13 (hmc221 (m := r20.2) w22) rfl ?_
  refine am_put dX7_pairsDyed_25 kFX7_23 (hmc221 (m := r20.2) w22) (Nat.le_of_ble_eq_true rfl) rfl rfl ?_
  have w23 := hmNs w22 0 (by decide)
  refine am_iload_n dX7_pairsDyed_28 0 rfl ?_
  exact am_ireturn dX7_pairsDyed_29 rfl rfl ⟨_, bnd_eq e6 (bnd_eq e14 (bnd_eq e21 (rfl))), rfl, w23⟩

theorem dX7_bestDye_0 : decode cX7_bestDye 0 = .ok (.aload_n 0, 1) := by decide +kernel
theorem dX7_bestDye_1 : decode cX7_bestDye 1 = .ok (.iload_n 1, 1) := by decide +kernel
theorem dX7_bestDye_2 : decode cX7_bestDye 2 = .ok (.invokevirtual 150, 3) := by decide +kernel
theorem dX7_bestDye_5 : decode cX7_bestDye 5 = .ok (.ifCond .ne 6, 3) := by decide +kernel
theorem dX7_bestDye_8 : decode cX7_bestDye 8 = .ok (.bipush (-2), 2) := by decide +kernel
theorem dX7_bestDye_10 : decode cX7_bestDye 10 = .ok (.ireturn, 1) := by decide +kernel
theorem dX7_bestDye_11 : decode cX7_bestDye 11 = .ok (.aload_n 0, 1) := by decide +kernel
theorem dX7_bestDye_12 : decode cX7_bestDye 12 = .ok (.iload_n 1, 1) := by decide +kernel
theorem dX7_bestDye_13 : decode cX7_bestDye 13 = .ok (.iconst 1, 1) := by decide +kernel
theorem dX7_bestDye_14 : decode cX7_bestDye 14 = .ok (.invokevirtual 89, 3) := by decide +kernel
theorem dX7_bestDye_17 : decode cX7_bestDye 17 = .ok (.ifCond .ne 6, 3) := by decide +kernel
theorem dX7_bestDye_20 : decode cX7_bestDye 20 = .ok (.bipush (-6), 2) := by decide +kernel
theorem dX7_bestDye_22 : decode cX7_bestDye 22 = .ok (.ireturn, 1) := by decide +kernel
theorem dX7_bestDye_23 : decode cX7_bestDye 23 = .ok (.aload_n 0, 1) := by decide +kernel
theorem dX7_bestDye_24 : decode cX7_bestDye 24 = .ok (.iload_n 1, 1) := by decide +kernel
theorem dX7_bestDye_25 : decode cX7_bestDye 25 = .ok (.iconst 4, 1) := by decide +kernel
theorem dX7_bestDye_26 : decode cX7_bestDye 26 = .ok (.invokevirtual 60, 3) := by decide +kernel
theorem dX7_bestDye_29 : decode cX7_bestDye 29 = .ok (.istore_n 2, 1) := by decide +kernel
theorem dX7_bestDye_30 : decode cX7_bestDye 30 = .ok (.iload_n 2, 1) := by decide +kernel
theorem dX7_bestDye_31 : decode cX7_bestDye 31 = .ok (.istore_n 3, 1) := by decide +kernel
theorem dX7_bestDye_32 : decode cX7_bestDye 32 = .ok (.aload_n 0, 1) := by decide +kernel
theorem dX7_bestDye_33 : decode cX7_bestDye 33 = .ok (.invokevirtual 124, 3) := by decide +kernel
theorem dX7_bestDye_36 : decode cX7_bestDye 36 = .ok (.istore 4, 2) := by decide +kernel
theorem dX7_bestDye_38 : decode cX7_bestDye 38 = .ok (.iconst 1, 1) := by decide +kernel
theorem dX7_bestDye_39 : decode cX7_bestDye 39 = .ok (.istore 5, 2) := by decide +kernel
theorem dX7_bestDye_41 : decode cX7_bestDye 41 = .ok (.iload 5, 2) := by decide +kernel
theorem dX7_bestDye_43 : decode cX7_bestDye 43 = .ok (.sipush 255, 3) := by decide +kernel
theorem dX7_bestDye_46 : decode cX7_bestDye 46 = .ok (.if_icmp .gt 75, 3) := by decide +kernel
theorem dX7_bestDye_49 : decode cX7_bestDye 49 = .ok (.iconst (-1), 1) := by decide +kernel
theorem dX7_bestDye_50 : decode cX7_bestDye 50 = .ok (.istore 6, 2) := by decide +kernel
theorem dX7_bestDye_52 : decode cX7_bestDye 52 = .ok (.iload 6, 2) := by decide +kernel
theorem dX7_bestDye_54 : decode cX7_bestDye 54 = .ok (.iconst 1, 1) := by decide +kernel
theorem dX7_bestDye_55 : decode cX7_bestDye 55 = .ok (.if_icmp .gt 60, 3) := by decide +kernel
theorem dX7_bestDye_58 : decode cX7_bestDye 58 = .ok (.iload_n 2, 1) := by decide +kernel
theorem dX7_bestDye_59 : decode cX7_bestDye 59 = .ok (.iload 6, 2) := by decide +kernel
theorem dX7_bestDye_61 : decode cX7_bestDye 61 = .ok (.iload 5, 2) := by decide +kernel
theorem dX7_bestDye_63 : decode cX7_bestDye 63 = .ok (.imul, 1) := by decide +kernel
theorem dX7_bestDye_64 : decode cX7_bestDye 64 = .ok (.iadd, 1) := by decide +kernel
theorem dX7_bestDye_65 : decode cX7_bestDye 65 = .ok (.istore 7, 2) := by decide +kernel
theorem dX7_bestDye_67 : decode cX7_bestDye 67 = .ok (.iload 7, 2) := by decide +kernel
theorem dX7_bestDye_69 : decode cX7_bestDye 69 = .ok (.i2l, 1) := by decide +kernel
theorem dX7_bestDye_70 : decode cX7_bestDye 70 = .ok (.lconst 0, 1) := by decide +kernel
theorem dX7_bestDye_71 : decode cX7_bestDye 71 = .ok (.ldc2_w 201, 3) := by decide +kernel
theorem dX7_bestDye_74 : decode cX7_bestDye 74 = .ok (.invokestatic 56, 3) := by decide +kernel
theorem dX7_bestDye_77 : decode cX7_bestDye 77 = .ok (.ifCond .ne 6, 3) := by decide +kernel
theorem dX7_bestDye_80 : decode cX7_bestDye 80 = .ok (.goto 29, 3) := by decide +kernel
theorem dX7_bestDye_83 : decode cX7_bestDye 83 = .ok (.aload_n 0, 1) := by decide +kernel
theorem dX7_bestDye_84 : decode cX7_bestDye 84 = .ok (.iload_n 1, 1) := by decide +kernel
theorem dX7_bestDye_85 : decode cX7_bestDye 85 = .ok (.iload 7, 2) := by decide +kernel
theorem dX7_bestDye_87 : decode cX7_bestDye 87 = .ok (.invokevirtual 203, 3) := by decide +kernel
theorem dX7_bestDye_90 : decode cX7_bestDye 90 = .ok (.istore 8, 2) := by decide +kernel
theorem dX7_bestDye_92 : decode cX7_bestDye 92 = .ok (.iload 8, 2) := by decide +kernel
theorem dX7_bestDye_94 : decode cX7_bestDye 94 = .ok (.iload 4, 2) := by decide +kernel
theorem dX7_bestDye_96 : decode cX7_bestDye 96 = .ok (.if_icmp .gt 6, 3) := by decide +kernel
theorem dX7_bestDye_99 : decode cX7_bestDye 99 = .ok (.goto 10, 3) := by decide +kernel
theorem dX7_bestDye_102 : decode cX7_bestDye 102 = .ok (.iload 7, 2) := by decide +kernel
theorem dX7_bestDye_104 : decode cX7_bestDye 104 = .ok (.istore_n 3, 1) := by decide +kernel
theorem dX7_bestDye_105 : decode cX7_bestDye 105 = .ok (.iload 8, 2) := by decide +kernel
theorem dX7_bestDye_107 : decode cX7_bestDye 107 = .ok (.istore 4, 2) := by decide +kernel
theorem dX7_bestDye_109 : decode cX7_bestDye 109 = .ok (.iinc 6 2, 3) := by decide +kernel
theorem dX7_bestDye_112 : decode cX7_bestDye 112 = .ok (.goto (-60), 3) := by decide +kernel
theorem dX7_bestDye_115 : decode cX7_bestDye 115 = .ok (.iinc 5 1, 3) := by decide +kernel
theorem dX7_bestDye_118 : decode cX7_bestDye 118 = .ok (.goto (-77), 3) := by decide +kernel
theorem dX7_bestDye_121 : decode cX7_bestDye 121 = .ok (.iload_n 3, 1) := by decide +kernel
theorem dX7_bestDye_122 : decode cX7_bestDye 122 = .ok (.ireturn, 1) := by decide +kernel
def fX7_bestDye_52 (z1 : Int32) (o5 : Int32) (o2 : Int32) : Nat → Int32 → Int32 → Int32 → Md → Int32 × Int32 × Int32 × Md
  | 0, x6, x4, x3, y => (x6, x4, x3, y)
  | fu + 1, x6, x4, x3, y => (if 1 < x6 then (x6, x4, x3, y) else (if (fX7_in ((o2 + (x6 * o5)).toInt64) 0 255) = 0 then (fX7_bestDye_52 z1 o5 o2  fu (x6 + 2) x4 x3 y) else (bnd (fX7_pairsDyed y z1 (o2 + (x6 * o5))) (fun r32 => (if x4 < r32.1 then (fX7_bestDye_52 z1 o5 o2  fu (x6 + 2) r32.1 (o2 + (x6 * o5)) r32.2) else (fX7_bestDye_52 z1 o5 o2  fu (x6 + 2) x4 x3 r32.2))))))
def sX7_bestDye_52 (z1 : Int32) (o5 : Int32) (o2 : Int32) : Nat → Int32 → Int32 → Int32 → Md → Prop
  | 0, _, _, _, _ => False
  | fu + 1, x6, x4, x3, y => ((1 < x6 → True) ∧ (¬ 1 < x6 → (((fX7_in ((o2 + (x6 * o5)).toInt64) 0 255) = 0 → (sX7_bestDye_52 z1 o5 o2  fu (x6 + 2) x4 x3 y)) ∧ (¬ (fX7_in ((o2 + (x6 * o5)).toInt64) 0 255) = 0 → ((sX7_pairsDyed y z1 (o2 + (x6 * o5))) ∧ (bnd (fX7_pairsDyed y z1 (o2 + (x6 * o5))) (fun r32 => ((x4 < r32.1 → (sX7_bestDye_52 z1 o5 o2  fu (x6 + 2) r32.1 (o2 + (x6 * o5)) r32.2)) ∧ (¬ x4 < r32.1 → (sX7_bestDye_52 z1 o5 o2  fu (x6 + 2) x4 x3 r32.2))))))))))
set_option maxRecDepth 20000 in
theorem wX7_bestDye_52 {l : Launch} {G : GM} {K : Nat → Option va_E} (z1 : Int32) (o5 : Int32) (o2 : Int32)  {Q : Option Value → List va_E → Prop} : ∀ (fu : Nat) (x6 x4 x3 : Int32) (y : Md) (hs : sX7_bestDye_52 z1 o5 o2  fu x6 x4 x3 y) {h : List va_E} (gy : HM G K h y) (kx : ∀ (h1 : List va_E) (r : Int32 × Int32 × Int32 × Md), (fX7_bestDye_52 z1 o5 o2  fu x6 x4 x3 y) = r → HM G K h1 r.2.2.2 → Tr l G mX7_bestDye 8 0 0 115 [(6, .int r.1), (5, .int o5), (4, .int r.2.1), (3, .int r.2.2.1), (2, .int o2), (0, .ref (gz G + 221)), (1, .int z1)] [] h1 Q), Tr l G mX7_bestDye 8 0 0 52 [(6, .int x6), (5, .int o5), (4, .int x4), (3, .int x3), (2, .int o2), (0, .ref (gz G + 221)), (1, .int z1)] [] h Q := by
  intro fu
  induction fu with
  | zero => intro x6 x4 x3 y hs; intros; exact (show False from hs).elim
  | succ fu ih =>
    intro x6 x4 x3 y  hs  h gy  kx
    rw [sX7_bestDye_52] at hs
    refine am_iload dX7_bestDye_52 0 rfl ?_
    refine am_iconst (v := 1) dX7_bestDye_54 (by decide) ?_
    refine am_icmp_gt dX7_bestDye_55 (by decide : ((55 : Nat) : Int) + (60) = ((115 : Nat) : Int)) (fun c23 => ?_) (fun c23 => ?_)
    · have hs := hs.1 c23
      exact kx _ _ (ifp c23 (rfl)) gy 
    · have hs := hs.2 c23
      refine am_iload_n dX7_bestDye_58 4 rfl ?_
      refine am_iload dX7_bestDye_59 0 rfl ?_
      refine am_iload dX7_bestDye_61 1 rfl ?_
      refine am_imul dX7_bestDye_63 ?_
      refine am_iadd dX7_bestDye_64 ?_
      refine am_istore dX7_bestDye_65 (by decide) (lv' := [(7, .int (o2 + (x6 * o5))), (6, .int x6), (5, .int o5), (4, .int x4), (3, .int x3), (2, .int o2), (0, .ref (gz G + 221)), (1, .int z1)]) rfl ?_
      refine am_iload dX7_bestDye_67 0 rfl ?_
      refine am_i2l (v := (o2 + (x6 * o5)).toInt64) dX7_bestDye_69 rfl ?_
      refine am_lconst (v := 0) dX7_bestDye_70 (by decide) ?_
      refine am_ldc2 (v := 255) dX7_bestDye_71 kKX7_201 ?_
      refine am_callS (As := [.long ((o2 + (x6 * o5)).toInt64), .long 0, .long 255]) (rest := []) dX7_bestDye_74 kMX7_56 rfl  rfl (Nat.le_of_ble_eq_true rfl) (d2 := 0) (by decide) (k2 := 0) (Nat.zero_le _) (u2 := 0) (Nat.zero_le _) (Nat.le_of_ble_eq_true rfl) (ctX7_in  ((o2 + (x6 * o5)).toInt64) 0 255 ) (fun v24 h25 q26 => ?_)
      obtain ⟨rfl, rfl⟩ := q26
      refine am_if_ne dX7_bestDye_77 (by decide : ((77 : Nat) : Int) + (6) = ((83 : Nat) : Int)) (fun c27 => ?_) (fun c27 => ?_)
      · have hs := hs.2 c27
        refine am_aload_n dX7_bestDye_83 6 rfl ?_
        refine am_iload_n dX7_bestDye_84 7 rfl ?_
        refine am_iload dX7_bestDye_85 0 rfl ?_
        obtain ⟨i28, hs⟩ := hs
        refine am_callV (As := [.int z1, .int (o2 + (x6 * o5))]) (rest := []) dX7_bestDye_87 kMX7_203 rfl (hmc221 (m := y) gy) rfl rfl (Nat.le_of_ble_eq_true rfl) (d2 := 7) (by decide) (k2 := 0) (Nat.zero_le _) (u2 := 0) (Nat.zero_le _) (Nat.le_of_ble_eq_true rfl) (ctX7_pairsDyed (m := y) gy z1 (o2 + (x6 * o5)) i28) (fun v29 h30 q31 => ?_)
        obtain ⟨r32, e33, rfl, w34⟩ := q31
        have hs := bnd_p e33 hs
        refine am_istore dX7_bestDye_90 (by decide) (lv' := [(8, .int r32.1), (7, .int (o2 + (x6 * o5))), (6, .int x6), (5, .int o5), (4, .int x4), (3, .int x3), (2, .int o2), (0, .ref (gz G + 221)), (1, .int z1)]) rfl ?_
        refine am_iload dX7_bestDye_92 0 rfl ?_
        refine am_iload dX7_bestDye_94 4 rfl ?_
        refine am_icmp_gt dX7_bestDye_96 (by decide : ((96 : Nat) : Int) + (6) = ((102 : Nat) : Int)) (fun c35 => ?_) (fun c35 => ?_)
        · have hs := hs.1 c35
          refine am_iload dX7_bestDye_102 1 rfl ?_
          refine am_istore_n dX7_bestDye_104 (by decide) (lv' := [(3, .int (o2 + (x6 * o5))), (8, .int r32.1), (7, .int (o2 + (x6 * o5))), (6, .int x6), (5, .int o5), (4, .int x4), (2, .int o2), (0, .ref (gz G + 221)), (1, .int z1)]) rfl ?_
          refine am_iload dX7_bestDye_105 1 rfl ?_
          refine am_istore dX7_bestDye_107 (by decide) (lv' := [(4, .int r32.1), (3, .int (o2 + (x6 * o5))), (8, .int r32.1), (7, .int (o2 + (x6 * o5))), (6, .int x6), (5, .int o5), (2, .int o2), (0, .ref (gz G + 221)), (1, .int z1)]) rfl ?_
          refine am_iinc (v := (x6 + 2)) dX7_bestDye_109 4 rfl rfl (by decide) (lv' := [(6, .int (x6 + 2)), (4, .int r32.1), (3, .int (o2 + (x6 * o5))), (8, .int r32.1), (7, .int (o2 + (x6 * o5))), (5, .int o5), (2, .int o2), (0, .ref (gz G + 221)), (1, .int z1)]) rfl ?_
          refine am_goto dX7_bestDye_112 (by decide : ((112 : Nat) : Int) + (-60) = ((52 : Nat) : Int)) ?_
          refine am_lv (lv' := [(6, .int (x6 + 2)), (5, .int o5), (4, .int r32.1), (3, .int (o2 + (x6 * o5))), (2, .int o2), (0, .ref (gz G + 221)), (1, .int z1)]) [0, 5, 1, 2, 6, 7, 8] rfl ?_
          exact ih (x6 + 2) r32.1 (o2 + (x6 * o5)) r32.2  hs w34  (fun h1 r e => kx h1 r (Eq.trans (ifn c23 (ifn c27 (bnd_eq e33 (ifp c35 (rfl))))) e))
        · have hs := hs.2 c35
          refine am_goto dX7_bestDye_99 (by decide : ((99 : Nat) : Int) + (10) = ((109 : Nat) : Int)) ?_
          refine am_iinc (v := (x6 + 2)) dX7_bestDye_109 2 rfl rfl (by decide) (lv' := [(6, .int (x6 + 2)), (8, .int r32.1), (7, .int (o2 + (x6 * o5))), (5, .int o5), (4, .int x4), (3, .int x3), (2, .int o2), (0, .ref (gz G + 221)), (1, .int z1)]) rfl ?_
          refine am_goto dX7_bestDye_112 (by decide : ((112 : Nat) : Int) + (-60) = ((52 : Nat) : Int)) ?_
          refine am_lv (lv' := [(6, .int (x6 + 2)), (5, .int o5), (4, .int x4), (3, .int x3), (2, .int o2), (0, .ref (gz G + 221)), (1, .int z1)]) [0, 3, 4, 5, 6, 7, 8] rfl ?_
          exact ih (x6 + 2) x4 x3 r32.2  hs w34  (fun h1 r e => kx h1 r (Eq.trans (ifn c23 (ifn c27 (bnd_eq e33 (ifn c35 (rfl))))) e))
      · have hs := hs.1 c27
        refine am_goto dX7_bestDye_80 (by decide : ((80 : Nat) : Int) + (29) = ((109 : Nat) : Int)) ?_
        refine am_iinc (v := (x6 + 2)) dX7_bestDye_109 1 rfl rfl (by decide) (lv' := [(6, .int (x6 + 2)), (7, .int (o2 + (x6 * o5))), (5, .int o5), (4, .int x4), (3, .int x3), (2, .int o2), (0, .ref (gz G + 221)), (1, .int z1)]) rfl ?_
        refine am_goto dX7_bestDye_112 (by decide : ((112 : Nat) : Int) + (-60) = ((52 : Nat) : Int)) ?_
        refine am_lv (lv' := [(6, .int (x6 + 2)), (5, .int o5), (4, .int x4), (3, .int x3), (2, .int o2), (0, .ref (gz G + 221)), (1, .int z1)]) [0, 2, 3, 4, 5, 6, 7] rfl ?_
        exact ih (x6 + 2) x4 x3 y  hs gy  (fun h1 r e => kx h1 r (Eq.trans (ifn c23 (ifp c27 (rfl))) e))
def fX7_bestDye_41 (z1 : Int32) (o2 : Int32) : Nat → Int32 → Int32 → Int32 → Md → Int32 × Int32 × Int32 × Md
  | 0, x5, x4, x3, y => (x5, x4, x3, y)
  | fu + 1, x5, x4, x3, y => (if 255 < x5 then (x5, x4, x3, y) else (bnd (fX7_bestDye_52 z1 x5 o2  5 (-1) x4 x3 y) (fun r37 => (fX7_bestDye_41 z1 o2  fu (x5 + 1) r37.2.1 r37.2.2.1 r37.2.2.2))))
def sX7_bestDye_41 (z1 : Int32) (o2 : Int32) : Nat → Int32 → Int32 → Int32 → Md → Prop
  | 0, _, _, _, _ => True
  | fu + 1, x5, x4, x3, y => ((255 < x5 → True) ∧ (¬ 255 < x5 → ((sX7_bestDye_52 z1 x5 o2  5 (-1) x4 x3 y) ∧ bnd (fX7_bestDye_52 z1 x5 o2  5 (-1) x4 x3 y) (fun r37 => (sX7_bestDye_41 z1 o2  fu (x5 + 1) r37.2.1 r37.2.2.1 r37.2.2.2)))))
set_option maxRecDepth 20000 in
theorem wX7_bestDye_41 {l : Launch} {G : GM} {K : Nat → Option va_E} (z1 : Int32) (o2 : Int32)  {Q : Option Value → List va_E → Prop} : ∀ (fu : Nat) (x5 x4 x3 : Int32) (y : Md) (iv : ivL 255 x5 fu) (hs : sX7_bestDye_41 z1 o2  fu x5 x4 x3 y) {h : List va_E} (gy : HM G K h y) (kx : ∀ (h1 : List va_E) (r : Int32 × Int32 × Int32 × Md), (fX7_bestDye_41 z1 o2  fu x5 x4 x3 y) = r → HM G K h1 r.2.2.2 → Tr l G mX7_bestDye 8 0 0 121 [(5, .int r.1), (4, .int r.2.1), (3, .int r.2.2.1), (2, .int o2), (0, .ref (gz G + 221)), (1, .int z1)] [] h1 Q), Tr l G mX7_bestDye 8 0 0 41 [(5, .int x5), (4, .int x4), (3, .int x3), (2, .int o2), (0, .ref (gz G + 221)), (1, .int z1)] [] h Q := by
  intro fu
  induction fu with
  | zero => intro x5 x4 x3 y iv; intros; exact absurd iv ivL_0
  | succ fu ih =>
    intro x5 x4 x3 y iv hs  h gy  kx
    rw [sX7_bestDye_41] at hs
    refine am_iload dX7_bestDye_41 0 rfl ?_
    refine am_sipush (v := 255) dX7_bestDye_43 (by decide) ?_
    refine am_icmp_gt dX7_bestDye_46 (by decide : ((46 : Nat) : Int) + (75) = ((121 : Nat) : Int)) (fun c22 => ?_) (fun c22 => ?_)
    · have hs := hs.1 c22
      exact kx _ _ (ifp c22 (rfl)) gy 
    · have hs := hs.2 c22
      refine am_iconst (v := (-1)) dX7_bestDye_49 (by decide) ?_
      refine am_istore dX7_bestDye_50 (by decide) (lv' := [(6, .int (-1)), (5, .int x5), (4, .int x4), (3, .int x3), (2, .int o2), (0, .ref (gz G + 221)), (1, .int z1)]) rfl ?_
      obtain ⟨i36, hs⟩ := hs
      refine wX7_bestDye_52 z1 x5 o2  5 (-1) x4 x3 y  i36 gy  (fun h39 r37 e38 w40  => ?_)
      have hs := bnd_p e38 hs
      refine am_iinc (v := (x5 + 1)) dX7_bestDye_115 1 rfl rfl (by decide) (lv' := [(5, .int (x5 + 1)), (6, .int r37.1), (4, .int r37.2.1), (3, .int r37.2.2.1), (2, .int o2), (0, .ref (gz G + 221)), (1, .int z1)]) rfl ?_
      refine am_goto dX7_bestDye_118 (by decide : ((118 : Nat) : Int) + (-77) = ((41 : Nat) : Int)) ?_
      refine am_lv (lv' := [(5, .int (x5 + 1)), (4, .int r37.2.1), (3, .int r37.2.2.1), (2, .int o2), (0, .ref (gz G + 221)), (1, .int z1)]) [0, 2, 3, 4, 5, 6] rfl ?_
      exact ih (x5 + 1) r37.2.1 r37.2.2.1 r37.2.2.2 (ivL_s c22 (by decide) iv) hs w40  (fun h1 r e => kx h1 r (Eq.trans (ifn c22 (bnd_eq e38 (rfl))) e))
def fX7_bestDye (m : Md) (z1 : Int32) : Int32 × Md := (if (fX7_isPiece m z1) = 0 then ((-2), m) else (if (fX7_isIn m z1 1) = 0 then ((-6), m) else (bnd (fX7_countPairs m ) (fun r19 => (bnd (fX7_bestDye_41 z1 (fX7_field m z1 4)  (fuL 255 1) 1 r19.1 (fX7_field m z1 4) r19.2) (fun r42 => (r42.2.2.1, r42.2.2.2)))))))
def sX7_bestDye (m : Md) (z1 : Int32) : Prop := ((sX7_isPiece m z1) ∧ (((fX7_isPiece m z1) = 0 → True) ∧ (¬ (fX7_isPiece m z1) = 0 → ((sX7_isIn m z1 1) ∧ (((fX7_isIn m z1 1) = 0 → True) ∧ (¬ (fX7_isIn m z1 1) = 0 → ((sX7_field m z1 4) ∧ ((sX7_countPairs m ) ∧ (bnd (fX7_countPairs m ) (fun r19 => ((sX7_bestDye_41 z1 (fX7_field m z1 4)  (fuL 255 1) 1 r19.1 (fX7_field m z1 4) r19.2) ∧ bnd (fX7_bestDye_41 z1 (fX7_field m z1 4)  (fuL 255 1) 1 r19.1 (fX7_field m z1 4) r19.2) (fun r42 => True))))))))))))
set_option maxRecDepth 20000 in
theorem ctX7_bestDye {l : Launch} {G : GM} {K : Nat → Option va_E} {h : List va_E} {m : Md} (hm : HM G K h m) (z1 : Int32) (hs : sX7_bestDye m z1) : Ct l G mX7_bestDye 8 0 0 [.ref (gz G + 221), .int z1] h (fun v h1 => ∃ r, (fX7_bestDye m z1) = r ∧ v = some (.int r.1) ∧ HM G K h1 r.2) := by
  show Tr l G mX7_bestDye 8 0 0 0 [(0, .ref (gz G + 221)), (1, .int z1)] [] h _
  unfold sX7_bestDye at hs
  refine am_aload_n dX7_bestDye_0 0 rfl ?_
  refine am_iload_n dX7_bestDye_1 1 rfl ?_
  obtain ⟨i1, hs⟩ := hs
  refine am_callV (As := [.int z1]) (rest := []) dX7_bestDye_2 kMX7_150 rfl (hmc221 (m := m) hm) rfl rfl (Nat.le_of_ble_eq_true rfl) (d2 := 1) (by decide) (k2 := 0) (Nat.zero_le _) (u2 := 0) (Nat.zero_le _) (Nat.le_of_ble_eq_true rfl) (ctX7_isPiece (m := m) hm z1 i1) (fun v2 h3 q4 => ?_)
  obtain ⟨rfl, rfl⟩ := q4
  refine am_if_ne dX7_bestDye_5 (by decide : ((5 : Nat) : Int) + (6) = ((11 : Nat) : Int)) (fun c5 => ?_) (fun c5 => ?_)
  · have hs := hs.2 c5
    refine am_aload_n dX7_bestDye_11 0 rfl ?_
    refine am_iload_n dX7_bestDye_12 1 rfl ?_
    refine am_iconst (v := 1) dX7_bestDye_13 (by decide) ?_
    obtain ⟨i6, hs⟩ := hs
    refine am_callV (As := [.int z1, .int 1]) (rest := []) dX7_bestDye_14 kMX7_89 rfl (hmc221 (m := m) hm) rfl rfl (Nat.le_of_ble_eq_true rfl) (d2 := 2) (by decide) (k2 := 0) (Nat.zero_le _) (u2 := 0) (Nat.zero_le _) (Nat.le_of_ble_eq_true rfl) (ctX7_isIn (m := m) hm z1 1 i6) (fun v7 h8 q9 => ?_)
    obtain ⟨rfl, rfl⟩ := q9
    refine am_if_ne dX7_bestDye_17 (by decide : ((17 : Nat) : Int) + (6) = ((23 : Nat) : Int)) (fun c10 => ?_) (fun c10 => ?_)
    · have hs := hs.2 c10
      refine am_aload_n dX7_bestDye_23 0 rfl ?_
      refine am_iload_n dX7_bestDye_24 1 rfl ?_
      refine am_iconst (v := 4) dX7_bestDye_25 (by decide) ?_
      obtain ⟨i11, hs⟩ := hs
      refine am_callV (As := [.int z1, .int 4]) (rest := []) dX7_bestDye_26 kMX7_60 rfl (hmc221 (m := m) hm) rfl rfl (Nat.le_of_ble_eq_true rfl) (d2 := 1) (by decide) (k2 := 0) (Nat.zero_le _) (u2 := 0) (Nat.zero_le _) (Nat.le_of_ble_eq_true rfl) (ctX7_field (m := m) hm z1 4 i11) (fun v12 h13 q14 => ?_)
      obtain ⟨rfl, rfl⟩ := q14
      refine am_istore_n dX7_bestDye_29 (by decide) (lv' := [(2, .int (fX7_field m z1 4)), (0, .ref (gz G + 221)), (1, .int z1)]) rfl ?_
      refine am_iload_n dX7_bestDye_30 0 rfl ?_
      refine am_istore_n dX7_bestDye_31 (by decide) (lv' := [(3, .int (fX7_field m z1 4)), (2, .int (fX7_field m z1 4)), (0, .ref (gz G + 221)), (1, .int z1)]) rfl ?_
      refine am_aload_n dX7_bestDye_32 2 rfl ?_
      obtain ⟨i15, hs⟩ := hs
      refine am_callV (As := []) (rest := []) dX7_bestDye_33 kMX7_124 rfl (hmc221 (m := m) hm) rfl rfl (Nat.le_of_ble_eq_true rfl) (d2 := 6) (by decide) (k2 := 0) (Nat.zero_le _) (u2 := 0) (Nat.zero_le _) (Nat.le_of_ble_eq_true rfl) (ctX7_countPairs (m := m) hm  i15) (fun v16 h17 q18 => ?_)
      obtain ⟨r19, e20, rfl, w21⟩ := q18
      have hs := bnd_p e20 hs
      refine am_istore dX7_bestDye_36 (by decide) (lv' := [(4, .int r19.1), (3, .int (fX7_field m z1 4)), (2, .int (fX7_field m z1 4)), (0, .ref (gz G + 221)), (1, .int z1)]) rfl ?_
      refine am_iconst (v := 1) dX7_bestDye_38 (by decide) ?_
      refine am_istore dX7_bestDye_39 (by decide) (lv' := [(5, .int 1), (4, .int r19.1), (3, .int (fX7_field m z1 4)), (2, .int (fX7_field m z1 4)), (0, .ref (gz G + 221)), (1, .int z1)]) rfl ?_
      obtain ⟨i41, hs⟩ := hs
      refine wX7_bestDye_41 z1 (fX7_field m z1 4)  (fuL 255 1) 1 r19.1 (fX7_field m z1 4) r19.2 ivL_i i41 w21  (fun h44 r42 e43 w45  => ?_)
      have hs := bnd_p e43 hs
      refine am_iload_n dX7_bestDye_121 2 rfl ?_
      exact am_ireturn dX7_bestDye_122 rfl rfl ⟨_, ifn c5 (ifn c10 (bnd_eq e20 (bnd_eq e43 (rfl)))), rfl, w45⟩
    · have hs := hs.1 c10
      refine am_bipush (v := (-6)) dX7_bestDye_20 (by decide) ?_
      exact am_ireturn dX7_bestDye_22 rfl rfl ⟨_, ifn c5 (ifp c10 (rfl)), rfl, hm⟩
  · have hs := hs.1 c5
    refine am_bipush (v := (-2)) dX7_bestDye_8 (by decide) ?_
    exact am_ireturn dX7_bestDye_10 rfl rfl ⟨_, ifp c5 (rfl), rfl, hm⟩

theorem dX7_remember_0 : decode cX7_remember 0 = .ok (.aload_n 0, 1) := by decide +kernel
theorem dX7_remember_1 : decode cX7_remember 1 = .ok (.getfield 206, 3) := by decide +kernel
theorem dX7_remember_4 : decode cX7_remember 4 = .ok (.bipush 10, 2) := by decide +kernel
theorem dX7_remember_6 : decode cX7_remember 6 = .ok (.if_icmp .ne 46, 3) := by decide +kernel
theorem dX7_remember_9 : decode cX7_remember 9 = .ok (.sipush 146, 3) := by decide +kernel
theorem dX7_remember_12 : decode cX7_remember 12 = .ok (.istore_n 1, 1) := by decide +kernel
theorem dX7_remember_13 : decode cX7_remember 13 = .ok (.iload_n 1, 1) := by decide +kernel
theorem dX7_remember_14 : decode cX7_remember 14 = .ok (.sipush 1460, 3) := by decide +kernel
theorem dX7_remember_17 : decode cX7_remember 17 = .ok (.if_icmp .ge 25, 3) := by decide +kernel
theorem dX7_remember_20 : decode cX7_remember 20 = .ok (.aload_n 0, 1) := by decide +kernel
theorem dX7_remember_21 : decode cX7_remember 21 = .ok (.getfield 35, 3) := by decide +kernel
theorem dX7_remember_24 : decode cX7_remember 24 = .ok (.iload_n 1, 1) := by decide +kernel
theorem dX7_remember_25 : decode cX7_remember 25 = .ok (.sipush 146, 3) := by decide +kernel
theorem dX7_remember_28 : decode cX7_remember 28 = .ok (.isub, 1) := by decide +kernel
theorem dX7_remember_29 : decode cX7_remember 29 = .ok (.aload_n 0, 1) := by decide +kernel
theorem dX7_remember_30 : decode cX7_remember 30 = .ok (.getfield 35, 3) := by decide +kernel
theorem dX7_remember_33 : decode cX7_remember 33 = .ok (.iload_n 1, 1) := by decide +kernel
theorem dX7_remember_34 : decode cX7_remember 34 = .ok (.iaload, 1) := by decide +kernel
theorem dX7_remember_35 : decode cX7_remember 35 = .ok (.iastore, 1) := by decide +kernel
theorem dX7_remember_36 : decode cX7_remember 36 = .ok (.iinc 1 1, 3) := by decide +kernel
theorem dX7_remember_39 : decode cX7_remember 39 = .ok (.goto (-26), 3) := by decide +kernel
theorem dX7_remember_42 : decode cX7_remember 42 = .ok (.aload_n 0, 1) := by decide +kernel
theorem dX7_remember_43 : decode cX7_remember 43 = .ok (.dup, 1) := by decide +kernel
theorem dX7_remember_44 : decode cX7_remember 44 = .ok (.getfield 206, 3) := by decide +kernel
theorem dX7_remember_47 : decode cX7_remember 47 = .ok (.iconst 1, 1) := by decide +kernel
theorem dX7_remember_48 : decode cX7_remember 48 = .ok (.isub, 1) := by decide +kernel
theorem dX7_remember_49 : decode cX7_remember 49 = .ok (.putfield 206, 3) := by decide +kernel
theorem dX7_remember_52 : decode cX7_remember 52 = .ok (.iconst 0, 1) := by decide +kernel
theorem dX7_remember_53 : decode cX7_remember 53 = .ok (.istore_n 1, 1) := by decide +kernel
theorem dX7_remember_54 : decode cX7_remember 54 = .ok (.iload_n 1, 1) := by decide +kernel
theorem dX7_remember_55 : decode cX7_remember 55 = .ok (.sipush 146, 3) := by decide +kernel
theorem dX7_remember_58 : decode cX7_remember 58 = .ok (.if_icmp .ge 30, 3) := by decide +kernel
theorem dX7_remember_61 : decode cX7_remember 61 = .ok (.aload_n 0, 1) := by decide +kernel
theorem dX7_remember_62 : decode cX7_remember 62 = .ok (.getfield 35, 3) := by decide +kernel
theorem dX7_remember_65 : decode cX7_remember 65 = .ok (.sipush 146, 3) := by decide +kernel
theorem dX7_remember_68 : decode cX7_remember 68 = .ok (.aload_n 0, 1) := by decide +kernel
theorem dX7_remember_69 : decode cX7_remember 69 = .ok (.getfield 206, 3) := by decide +kernel
theorem dX7_remember_72 : decode cX7_remember 72 = .ok (.imul, 1) := by decide +kernel
theorem dX7_remember_73 : decode cX7_remember 73 = .ok (.iload_n 1, 1) := by decide +kernel
theorem dX7_remember_74 : decode cX7_remember 74 = .ok (.iadd, 1) := by decide +kernel
theorem dX7_remember_75 : decode cX7_remember 75 = .ok (.aload_n 0, 1) := by decide +kernel
theorem dX7_remember_76 : decode cX7_remember 76 = .ok (.getfield 13, 3) := by decide +kernel
theorem dX7_remember_79 : decode cX7_remember 79 = .ok (.iload_n 1, 1) := by decide +kernel
theorem dX7_remember_80 : decode cX7_remember 80 = .ok (.iaload, 1) := by decide +kernel
theorem dX7_remember_81 : decode cX7_remember 81 = .ok (.iastore, 1) := by decide +kernel
theorem dX7_remember_82 : decode cX7_remember 82 = .ok (.iinc 1 1, 3) := by decide +kernel
theorem dX7_remember_85 : decode cX7_remember 85 = .ok (.goto (-31), 3) := by decide +kernel
theorem dX7_remember_88 : decode cX7_remember 88 = .ok (.aload_n 0, 1) := by decide +kernel
theorem dX7_remember_89 : decode cX7_remember 89 = .ok (.dup, 1) := by decide +kernel
theorem dX7_remember_90 : decode cX7_remember 90 = .ok (.getfield 206, 3) := by decide +kernel
theorem dX7_remember_93 : decode cX7_remember 93 = .ok (.iconst 1, 1) := by decide +kernel
theorem dX7_remember_94 : decode cX7_remember 94 = .ok (.iadd, 1) := by decide +kernel
theorem dX7_remember_95 : decode cX7_remember 95 = .ok (.putfield 206, 3) := by decide +kernel
theorem dX7_remember_98 : decode cX7_remember 98 = .ok (.return_, 1) := by decide +kernel
def fX7_remember_54   : Nat → Int32 → Md → Int32 × Md
  | 0, x1, y => (x1, y)
  | fu + 1, x1, y => (if 146 ≤ x1 then (x1, y) else (bnd (mA y 6 (upd (y.2.1 6) (((146 : Int32) * (y.1 2)) + x1).toNatClampNeg ((y.2.1 0) x1.toNatClampNeg))) (fun r6 => (fX7_remember_54    fu (x1 + 1) r6))))
def sX7_remember_54   : Nat → Int32 → Md → Prop
  | 0, _, _ => True
  | fu + 1, x1, y => ((146 ≤ x1 → True) ∧ (¬ 146 ≤ x1 → (vp_in x1 146 ∧ (vp_in (((146 : Int32) * (y.1 2)) + x1) 1460 ∧ (bnd (mA y 6 (upd (y.2.1 6) (((146 : Int32) * (y.1 2)) + x1).toNatClampNeg ((y.2.1 0) x1.toNatClampNeg))) (fun r6 => (sX7_remember_54    fu (x1 + 1) r6)))))))
set_option maxRecDepth 20000 in
theorem wX7_remember_54 {l : Launch} {G : GM} {K : Nat → Option va_E}    {Q : Option Value → List va_E → Prop} : ∀ (fu : Nat) (x1 : Int32) (y : Md) (iv : ivU 146 x1 fu) (hs : sX7_remember_54    fu x1 y) {h : List va_E} (gy : HM G K h y) (kx : ∀ (h1 : List va_E) (r : Int32 × Md), (fX7_remember_54    fu x1 y) = r → HM G K h1 r.2 → Tr l G mX7_remember 0 0 0 88 [(1, .int r.1), (0, .ref (gz G + 221))] [] h1 Q), Tr l G mX7_remember 0 0 0 54 [(1, .int x1), (0, .ref (gz G + 221))] [] h Q := by
  intro fu
  induction fu with
  | zero => intro x1 y iv; intros; exact absurd iv ivU_0
  | succ fu ih =>
    intro x1 y iv hs  h gy  kx
    rw [sX7_remember_54] at hs
    refine am_iload_n dX7_remember_54 0 rfl ?_
    refine am_sipush (v := 146) dX7_remember_55 (by decide) ?_
    refine am_icmp_ge dX7_remember_58 (by decide : ((58 : Nat) : Int) + (30) = ((88 : Nat) : Int)) (fun c2 => ?_) (fun c2 => ?_)
    · have hs := hs.1 c2
      exact kx _ _ (ifp c2 (rfl)) gy 
    · have hs := hs.2 c2
      refine am_aload_n dX7_remember_61 1 rfl ?_
      refine am_get (v := .ref (gz G + 228)) dX7_remember_62 kGX7_35 (hmc221 (m := y) gy) rfl ?_
      refine am_sipush (v := 146) dX7_remember_65 (by decide) ?_
      refine am_aload_n dX7_remember_68 1 rfl ?_
      refine am_get (v := .int (y.1 2)) dX7_remember_69 kGX7_206 (hmc221 (m := y) gy) rfl ?_
      refine am_imul dX7_remember_72 ?_
      refine am_iload_n dX7_remember_73 0 rfl ?_
      refine am_iadd dX7_remember_74 ?_
      refine am_aload_n dX7_remember_75 1 rfl ?_
      refine am_get (v := .ref (gz G + 222)) dX7_remember_76 kGX7_13 (hmc221 (m := y) gy) rfl ?_
      refine am_iload_n dX7_remember_79 0 rfl ?_
      obtain ⟨i3, hs⟩ := hs
      refine am_iald (f := (y.2.1 0)) dX7_remember_80 (hmc222 (m := y) gy) i3 ?_
      obtain ⟨i4, hs⟩ := hs
      refine am_iast (f := (y.2.1 6)) dX7_remember_81 (hmc228 (m := y) gy) i4 ?_
      have w5 := hmA6 gy (upd (y.2.1 6) (((146 : Int32) * (y.1 2)) + x1).toNatClampNeg ((y.2.1 0) x1.toNatClampNeg))
      obtain ⟨r6, e7⟩ : ∃ x, (mA y 6 (upd (y.2.1 6) (((146 : Int32) * (y.1 2)) + x1).toNatClampNeg ((y.2.1 0) x1.toNatClampNeg))) = x := ⟨_, rfl⟩
      have w8 := hm_eq e7 w5
      have hs := bnd_p e7 hs
      refine am_iinc (v := (x1 + 1)) dX7_remember_82 0 rfl rfl (by decide) (lv' := [(1, .int (x1 + 1)), (0, .ref (gz G + 221))]) rfl ?_
      refine am_goto dX7_remember_85 (by decide : ((85 : Nat) : Int) + (-31) = ((54 : Nat) : Int)) ?_
      exact ih (x1 + 1) r6 (ivU_s c2 iv) hs w8  (fun h1 r e => kx h1 r (Eq.trans (ifn c2 (bnd_eq e7 (rfl))) e))
def fX7_remember_13   : Nat → Int32 → Md → Int32 × Md
  | 0, x1, y => (x1, y)
  | fu + 1, x1, y => (if 1460 ≤ x1 then (x1, y) else (bnd (mA y 6 (upd (y.2.1 6) (x1 - 146).toNatClampNeg ((y.2.1 6) x1.toNatClampNeg))) (fun r19 => (fX7_remember_13    fu (x1 + 1) r19))))
def sX7_remember_13   : Nat → Int32 → Md → Prop
  | 0, _, _ => True
  | fu + 1, x1, y => ((1460 ≤ x1 → True) ∧ (¬ 1460 ≤ x1 → (vp_in x1 1460 ∧ (vp_in (x1 - 146) 1460 ∧ (bnd (mA y 6 (upd (y.2.1 6) (x1 - 146).toNatClampNeg ((y.2.1 6) x1.toNatClampNeg))) (fun r19 => (sX7_remember_13    fu (x1 + 1) r19)))))))
set_option maxRecDepth 20000 in
theorem wX7_remember_13 {l : Launch} {G : GM} {K : Nat → Option va_E}    {Q : Option Value → List va_E → Prop} : ∀ (fu : Nat) (x1 : Int32) (y : Md) (iv : ivU 1460 x1 fu) (hs : sX7_remember_13    fu x1 y) {h : List va_E} (gy : HM G K h y) (kx : ∀ (h1 : List va_E) (r : Int32 × Md), (fX7_remember_13    fu x1 y) = r → HM G K h1 r.2 → Tr l G mX7_remember 0 0 0 42 [(1, .int r.1), (0, .ref (gz G + 221))] [] h1 Q), Tr l G mX7_remember 0 0 0 13 [(1, .int x1), (0, .ref (gz G + 221))] [] h Q := by
  intro fu
  induction fu with
  | zero => intro x1 y iv; intros; exact absurd iv ivU_0
  | succ fu ih =>
    intro x1 y iv hs  h gy  kx
    rw [sX7_remember_13] at hs
    refine am_iload_n dX7_remember_13 0 rfl ?_
    refine am_sipush (v := 1460) dX7_remember_14 (by decide) ?_
    refine am_icmp_ge dX7_remember_17 (by decide : ((17 : Nat) : Int) + (25) = ((42 : Nat) : Int)) (fun c15 => ?_) (fun c15 => ?_)
    · have hs := hs.1 c15
      exact kx _ _ (ifp c15 (rfl)) gy 
    · have hs := hs.2 c15
      refine am_aload_n dX7_remember_20 1 rfl ?_
      refine am_get (v := .ref (gz G + 228)) dX7_remember_21 kGX7_35 (hmc221 (m := y) gy) rfl ?_
      refine am_iload_n dX7_remember_24 0 rfl ?_
      refine am_sipush (v := 146) dX7_remember_25 (by decide) ?_
      refine am_isub dX7_remember_28 ?_
      refine am_aload_n dX7_remember_29 1 rfl ?_
      refine am_get (v := .ref (gz G + 228)) dX7_remember_30 kGX7_35 (hmc221 (m := y) gy) rfl ?_
      refine am_iload_n dX7_remember_33 0 rfl ?_
      obtain ⟨i16, hs⟩ := hs
      refine am_iald (f := (y.2.1 6)) dX7_remember_34 (hmc228 (m := y) gy) i16 ?_
      obtain ⟨i17, hs⟩ := hs
      refine am_iast (f := (y.2.1 6)) dX7_remember_35 (hmc228 (m := y) gy) i17 ?_
      have w18 := hmA6 gy (upd (y.2.1 6) (x1 - 146).toNatClampNeg ((y.2.1 6) x1.toNatClampNeg))
      obtain ⟨r19, e20⟩ : ∃ x, (mA y 6 (upd (y.2.1 6) (x1 - 146).toNatClampNeg ((y.2.1 6) x1.toNatClampNeg))) = x := ⟨_, rfl⟩
      have w21 := hm_eq e20 w18
      have hs := bnd_p e20 hs
      refine am_iinc (v := (x1 + 1)) dX7_remember_36 0 rfl rfl (by decide) (lv' := [(1, .int (x1 + 1)), (0, .ref (gz G + 221))]) rfl ?_
      refine am_goto dX7_remember_39 (by decide : ((39 : Nat) : Int) + (-26) = ((13 : Nat) : Int)) ?_
      exact ih (x1 + 1) r19 (ivU_s c15 iv) hs w21  (fun h1 r e => kx h1 r (Eq.trans (ifn c15 (bnd_eq e20 (rfl))) e))
def fX7_remember (m : Md)  : Md := (if (m.1 2) = 10 then (bnd (fX7_remember_13    (fuU 1460 146) 146 m) (fun r23 => (bnd (fX7_remember_54    (fuU 146 0) 0 (mS r23.2 2 ((r23.2.1 2) - 1))) (fun r29 => (mS r29.2 2 ((r29.2.1 2) + 1)))))) else (bnd (fX7_remember_54    (fuU 146 0) 0 m) (fun r10 => (mS r10.2 2 ((r10.2.1 2) + 1)))))
def sX7_remember (m : Md)  : Prop := (((m.1 2) = 10 → ((sX7_remember_13    (fuU 1460 146) 146 m) ∧ bnd (fX7_remember_13    (fuU 1460 146) 146 m) (fun r23 => ((sX7_remember_54    (fuU 146 0) 0 (mS r23.2 2 ((r23.2.1 2) - 1))) ∧ bnd (fX7_remember_54    (fuU 146 0) 0 (mS r23.2 2 ((r23.2.1 2) - 1))) (fun r29 => True))))) ∧ (¬ (m.1 2) = 10 → ((sX7_remember_54    (fuU 146 0) 0 m) ∧ bnd (fX7_remember_54    (fuU 146 0) 0 m) (fun r10 => True))))
set_option maxRecDepth 20000 in
theorem ctX7_remember {l : Launch} {G : GM} {K : Nat → Option va_E} {h : List va_E} {m : Md} (hm : HM G K h m)  (hs : sX7_remember m ) : Ct l G mX7_remember 0 0 0 [.ref (gz G + 221)] h (fun v h1 => ∃ r, (fX7_remember m ) = r ∧ v = none ∧ HM G K h1 r) := by
  show Tr l G mX7_remember 0 0 0 0 [(0, .ref (gz G + 221))] [] h _
  unfold sX7_remember at hs
  refine am_aload_n dX7_remember_0 0 rfl ?_
  refine am_get (v := .int (m.1 2)) dX7_remember_1 kGX7_206 (hmc221 (m := m) hm) rfl ?_
  refine am_bipush (v := 10) dX7_remember_4 (by decide) ?_
  refine am_icmp_ne dX7_remember_6 (by decide : ((6 : Nat) : Int) + (46) = ((52 : Nat) : Int)) (fun c1 => ?_) (fun c1 => ?_)
  · have hs := hs.2 c1
    refine am_iconst (v := 0) dX7_remember_52 (by decide) ?_
    refine am_istore_n dX7_remember_53 (by decide) (lv' := [(1, .int 0), (0, .ref (gz G + 221))]) rfl ?_
    obtain ⟨i9, hs⟩ := hs
    refine wX7_remember_54    (fuU 146 0) 0 m ivU_i i9 hm  (fun h12 r10 e11 w13  => ?_)
    have hs := bnd_p e11 hs
    refine am_aload_n dX7_remember_88 1 rfl ?_
    refine am_dup dX7_remember_89 rfl ?_
    refine am_get (v := .int (r10.2.1 2)) dX7_remember_90 kGX7_206 (hmc221 (m := r10.2) w13) rfl ?_
    refine am_iconst (v := 1) dX7_remember_93 (by decide) ?_
    refine am_iadd dX7_remember_94 ?_
    refine am_put dX7_remember_95 kFX7_206 (hmc221 (m := r10.2) w13) (Nat.le_of_ble_eq_true rfl) rfl rfl ?_
    have w14 := hmS2 w13 ((r10.2.1 2) + 1)
    exact am_return dX7_remember_98 rfl ⟨_, ifn c1 (bnd_eq e11 (rfl)), rfl, w14⟩
  · have hs := hs.1 c1
    refine am_sipush (v := 146) dX7_remember_9 (by decide) ?_
    refine am_istore_n dX7_remember_12 (by decide) (lv' := [(1, .int 146), (0, .ref (gz G + 221))]) rfl ?_
    obtain ⟨i22, hs⟩ := hs
    refine wX7_remember_13    (fuU 1460 146) 146 m ivU_i i22 hm  (fun h25 r23 e24 w26  => ?_)
    have hs := bnd_p e24 hs
    refine am_aload_n dX7_remember_42 1 rfl ?_
    refine am_dup dX7_remember_43 rfl ?_
    refine am_get (v := .int (r23.2.1 2)) dX7_remember_44 kGX7_206 (hmc221 (m := r23.2) w26) rfl ?_
    refine am_iconst (v := 1) dX7_remember_47 (by decide) ?_
    refine am_isub dX7_remember_48 ?_
    refine am_put dX7_remember_49 kFX7_206 (hmc221 (m := r23.2) w26) (Nat.le_of_ble_eq_true rfl) rfl rfl ?_
    have w27 := hmS2 w26 ((r23.2.1 2) - 1)
    refine am_iconst (v := 0) dX7_remember_52 (by decide) ?_
    refine am_istore_n dX7_remember_53 (by decide) (lv' := [(1, .int 0), (0, .ref (gz G + 221))]) rfl ?_
    obtain ⟨i28, hs⟩ := hs
    refine wX7_remember_54    (fuU 146 0) 0 (mS r23.2 2 ((r23.2.1 2) - 1)) ivU_i i28 w27  (fun h31 r29 e30 w32  => ?_)
    have hs := bnd_p e30 hs
    refine am_aload_n dX7_remember_88 1 rfl ?_
    refine am_dup dX7_remember_89 rfl ?_
    refine am_get (v := .int (r29.2.1 2)) dX7_remember_90 kGX7_206 (hmc221 (m := r29.2) w32) rfl ?_
    refine am_iconst (v := 1) dX7_remember_93 (by decide) ?_
    refine am_iadd dX7_remember_94 ?_
    refine am_put dX7_remember_95 kFX7_206 (hmc221 (m := r29.2) w32) (Nat.le_of_ble_eq_true rfl) rfl rfl ?_
    have w33 := hmS2 w32 ((r29.2.1 2) + 1)
    exact am_return dX7_remember_98 rfl ⟨_, ifp c1 (bnd_eq e24 (bnd_eq e30 (rfl))), rfl, w33⟩

theorem dX7_undo_0 : decode cX7_undo 0 = .ok (.aload_n 0, 1) := by decide +kernel
theorem dX7_undo_1 : decode cX7_undo 1 = .ok (.getfield 206, 3) := by decide +kernel
theorem dX7_undo_4 : decode cX7_undo 4 = .ok (.ifCond .ne 5, 3) := by decide +kernel
theorem dX7_undo_7 : decode cX7_undo 7 = .ok (.iconst (-1), 1) := by decide +kernel
theorem dX7_undo_8 : decode cX7_undo 8 = .ok (.ireturn, 1) := by decide +kernel
theorem dX7_undo_9 : decode cX7_undo 9 = .ok (.aload_n 0, 1) := by decide +kernel
theorem dX7_undo_10 : decode cX7_undo 10 = .ok (.dup, 1) := by decide +kernel
theorem dX7_undo_11 : decode cX7_undo 11 = .ok (.getfield 206, 3) := by decide +kernel
theorem dX7_undo_14 : decode cX7_undo 14 = .ok (.iconst 1, 1) := by decide +kernel
theorem dX7_undo_15 : decode cX7_undo 15 = .ok (.isub, 1) := by decide +kernel
theorem dX7_undo_16 : decode cX7_undo 16 = .ok (.putfield 206, 3) := by decide +kernel
theorem dX7_undo_19 : decode cX7_undo 19 = .ok (.iconst 0, 1) := by decide +kernel
theorem dX7_undo_20 : decode cX7_undo 20 = .ok (.istore_n 1, 1) := by decide +kernel
theorem dX7_undo_21 : decode cX7_undo 21 = .ok (.iload_n 1, 1) := by decide +kernel
theorem dX7_undo_22 : decode cX7_undo 22 = .ok (.sipush 146, 3) := by decide +kernel
theorem dX7_undo_25 : decode cX7_undo 25 = .ok (.if_icmp .ge 30, 3) := by decide +kernel
theorem dX7_undo_28 : decode cX7_undo 28 = .ok (.aload_n 0, 1) := by decide +kernel
theorem dX7_undo_29 : decode cX7_undo 29 = .ok (.getfield 13, 3) := by decide +kernel
theorem dX7_undo_32 : decode cX7_undo 32 = .ok (.iload_n 1, 1) := by decide +kernel
theorem dX7_undo_33 : decode cX7_undo 33 = .ok (.aload_n 0, 1) := by decide +kernel
theorem dX7_undo_34 : decode cX7_undo 34 = .ok (.getfield 35, 3) := by decide +kernel
theorem dX7_undo_37 : decode cX7_undo 37 = .ok (.sipush 146, 3) := by decide +kernel
theorem dX7_undo_40 : decode cX7_undo 40 = .ok (.aload_n 0, 1) := by decide +kernel
theorem dX7_undo_41 : decode cX7_undo 41 = .ok (.getfield 206, 3) := by decide +kernel
theorem dX7_undo_44 : decode cX7_undo 44 = .ok (.imul, 1) := by decide +kernel
theorem dX7_undo_45 : decode cX7_undo 45 = .ok (.iload_n 1, 1) := by decide +kernel
theorem dX7_undo_46 : decode cX7_undo 46 = .ok (.iadd, 1) := by decide +kernel
theorem dX7_undo_47 : decode cX7_undo 47 = .ok (.iaload, 1) := by decide +kernel
theorem dX7_undo_48 : decode cX7_undo 48 = .ok (.iastore, 1) := by decide +kernel
theorem dX7_undo_49 : decode cX7_undo 49 = .ok (.iinc 1 1, 3) := by decide +kernel
theorem dX7_undo_52 : decode cX7_undo 52 = .ok (.goto (-31), 3) := by decide +kernel
theorem dX7_undo_55 : decode cX7_undo 55 = .ok (.aload_n 0, 1) := by decide +kernel
theorem dX7_undo_56 : decode cX7_undo 56 = .ok (.getfield 206, 3) := by decide +kernel
theorem dX7_undo_59 : decode cX7_undo 59 = .ok (.ireturn, 1) := by decide +kernel
def fX7_undo_21   : Nat → Int32 → Md → Int32 × Md
  | 0, x1, y => (x1, y)
  | fu + 1, x1, y => (if 146 ≤ x1 then (x1, y) else (bnd (mA y 0 (upd (y.2.1 0) x1.toNatClampNeg ((y.2.1 6) (((146 : Int32) * (y.1 2)) + x1).toNatClampNeg))) (fun r7 => (fX7_undo_21    fu (x1 + 1) r7))))
def sX7_undo_21   : Nat → Int32 → Md → Prop
  | 0, _, _ => True
  | fu + 1, x1, y => ((146 ≤ x1 → True) ∧ (¬ 146 ≤ x1 → (vp_in (((146 : Int32) * (y.1 2)) + x1) 1460 ∧ (vp_in x1 146 ∧ (bnd (mA y 0 (upd (y.2.1 0) x1.toNatClampNeg ((y.2.1 6) (((146 : Int32) * (y.1 2)) + x1).toNatClampNeg))) (fun r7 => (sX7_undo_21    fu (x1 + 1) r7)))))))
set_option maxRecDepth 20000 in
theorem wX7_undo_21 {l : Launch} {G : GM} {K : Nat → Option va_E}    {Q : Option Value → List va_E → Prop} : ∀ (fu : Nat) (x1 : Int32) (y : Md) (iv : ivU 146 x1 fu) (hs : sX7_undo_21    fu x1 y) {h : List va_E} (gy : HM G K h y) (kx : ∀ (h1 : List va_E) (r : Int32 × Md), (fX7_undo_21    fu x1 y) = r → HM G K h1 r.2 → Tr l G mX7_undo 0 0 0 55 [(1, .int r.1), (0, .ref (gz G + 221))] [] h1 Q), Tr l G mX7_undo 0 0 0 21 [(1, .int x1), (0, .ref (gz G + 221))] [] h Q := by
  intro fu
  induction fu with
  | zero => intro x1 y iv; intros; exact absurd iv ivU_0
  | succ fu ih =>
    intro x1 y iv hs  h gy  kx
    rw [sX7_undo_21] at hs
    refine am_iload_n dX7_undo_21 0 rfl ?_
    refine am_sipush (v := 146) dX7_undo_22 (by decide) ?_
    refine am_icmp_ge dX7_undo_25 (by decide : ((25 : Nat) : Int) + (30) = ((55 : Nat) : Int)) (fun c3 => ?_) (fun c3 => ?_)
    · have hs := hs.1 c3
      exact kx _ _ (ifp c3 (rfl)) gy 
    · have hs := hs.2 c3
      refine am_aload_n dX7_undo_28 1 rfl ?_
      refine am_get (v := .ref (gz G + 222)) dX7_undo_29 kGX7_13 (hmc221 (m := y) gy) rfl ?_
      refine am_iload_n dX7_undo_32 0 rfl ?_
      refine am_aload_n dX7_undo_33 1 rfl ?_
      refine am_get (v := .ref (gz G + 228)) dX7_undo_34 kGX7_35 (hmc221 (m := y) gy) rfl ?_
      refine am_sipush (v := 146) dX7_undo_37 (by decide) ?_
      refine am_aload_n dX7_undo_40 1 rfl ?_
      refine am_get (v := .int (y.1 2)) dX7_undo_41 kGX7_206 (hmc221 (m := y) gy) rfl ?_
      refine am_imul dX7_undo_44 ?_
      refine am_iload_n dX7_undo_45 0 rfl ?_
      refine am_iadd dX7_undo_46 ?_
      obtain ⟨i4, hs⟩ := hs
      refine am_iald (f := (y.2.1 6)) dX7_undo_47 (hmc228 (m := y) gy) i4 ?_
      obtain ⟨i5, hs⟩ := hs
      refine am_iast (f := (y.2.1 0)) dX7_undo_48 (hmc222 (m := y) gy) i5 ?_
      have w6 := hmA0 gy (upd (y.2.1 0) x1.toNatClampNeg ((y.2.1 6) (((146 : Int32) * (y.1 2)) + x1).toNatClampNeg))
      obtain ⟨r7, e8⟩ : ∃ x, (mA y 0 (upd (y.2.1 0) x1.toNatClampNeg ((y.2.1 6) (((146 : Int32) * (y.1 2)) + x1).toNatClampNeg))) = x := ⟨_, rfl⟩
      have w9 := hm_eq e8 w6
      have hs := bnd_p e8 hs
      refine am_iinc (v := (x1 + 1)) dX7_undo_49 0 rfl rfl (by decide) (lv' := [(1, .int (x1 + 1)), (0, .ref (gz G + 221))]) rfl ?_
      refine am_goto dX7_undo_52 (by decide : ((52 : Nat) : Int) + (-31) = ((21 : Nat) : Int)) ?_
      exact ih (x1 + 1) r7 (ivU_s c3 iv) hs w9  (fun h1 r e => kx h1 r (Eq.trans (ifn c3 (bnd_eq e8 (rfl))) e))
def fX7_undo (m : Md)  : Int32 × Md := (if (m.1 2) = 0 then ((-1), m) else (bnd (fX7_undo_21    (fuU 146 0) 0 (mS m 2 ((m.1 2) - 1))) (fun r11 => ((r11.2.1 2), r11.2))))
def sX7_undo (m : Md)  : Prop := (((m.1 2) = 0 → True) ∧ (¬ (m.1 2) = 0 → ((sX7_undo_21    (fuU 146 0) 0 (mS m 2 ((m.1 2) - 1))) ∧ bnd (fX7_undo_21    (fuU 146 0) 0 (mS m 2 ((m.1 2) - 1))) (fun r11 => True))))
set_option maxRecDepth 20000 in
theorem ctX7_undo {l : Launch} {G : GM} {K : Nat → Option va_E} {h : List va_E} {m : Md} (hm : HM G K h m)  (hs : sX7_undo m ) : Ct l G mX7_undo 0 0 0 [.ref (gz G + 221)] h (fun v h1 => ∃ r, (fX7_undo m ) = r ∧ v = some (.int r.1) ∧ HM G K h1 r.2) := by
  show Tr l G mX7_undo 0 0 0 0 [(0, .ref (gz G + 221))] [] h _
  unfold sX7_undo at hs
  refine am_aload_n dX7_undo_0 0 rfl ?_
  refine am_get (v := .int (m.1 2)) dX7_undo_1 kGX7_206 (hmc221 (m := m) hm) rfl ?_
  refine am_if_ne dX7_undo_4 (by decide : ((4 : Nat) : Int) + (5) = ((9 : Nat) : Int)) (fun c1 => ?_) (fun c1 => ?_)
  · have hs := hs.2 c1
    refine am_aload_n dX7_undo_9 0 rfl ?_
    refine am_dup dX7_undo_10 rfl ?_
    refine am_get (v := .int (m.1 2)) dX7_undo_11 kGX7_206 (hmc221 (m := m) hm) rfl ?_
    refine am_iconst (v := 1) dX7_undo_14 (by decide) ?_
    refine am_isub dX7_undo_15 ?_
    refine am_put dX7_undo_16 kFX7_206 (hmc221 (m := m) hm) (Nat.le_of_ble_eq_true rfl) rfl rfl ?_
    have w2 := hmS2 hm ((m.1 2) - 1)
    refine am_iconst (v := 0) dX7_undo_19 (by decide) ?_
    refine am_istore_n dX7_undo_20 (by decide) (lv' := [(1, .int 0), (0, .ref (gz G + 221))]) rfl ?_
    obtain ⟨i10, hs⟩ := hs
    refine wX7_undo_21    (fuU 146 0) 0 (mS m 2 ((m.1 2) - 1)) ivU_i i10 w2  (fun h13 r11 e12 w14  => ?_)
    have hs := bnd_p e12 hs
    refine am_aload_n dX7_undo_55 1 rfl ?_
    refine am_get (v := .int (r11.2.1 2)) dX7_undo_56 kGX7_206 (hmc221 (m := r11.2) w14) rfl ?_
    exact am_ireturn dX7_undo_59 rfl rfl ⟨_, ifn c1 (bnd_eq e12 (rfl)), rfl, w14⟩
  · have hs := hs.1 c1
    refine am_iconst (v := (-1)) dX7_undo_7 (by decide) ?_
    exact am_ireturn dX7_undo_8 rfl rfl ⟨_, ifp c1 (rfl), rfl, hm⟩

theorem dX7_undoCount_0 : decode cX7_undoCount 0 = .ok (.aload_n 0, 1) := by decide +kernel
theorem dX7_undoCount_1 : decode cX7_undoCount 1 = .ok (.getfield 206, 3) := by decide +kernel
theorem dX7_undoCount_4 : decode cX7_undoCount 4 = .ok (.ireturn, 1) := by decide +kernel
def fX7_undoCount (m : Md)  : Int32 := (m.1 2)
set_option maxRecDepth 20000 in
theorem ctX7_undoCount {l : Launch} {G : GM} {K : Nat → Option va_E} {h : List va_E} {m : Md} (hm : HM G K h m)  : Ct l G mX7_undoCount 0 0 0 [.ref (gz G + 221)] h (fun v h1 => v = some (.int (fX7_undoCount m )) ∧ h1 = h) := by
  show Tr l G mX7_undoCount 0 0 0 0 [(0, .ref (gz G + 221))] [] h _
  refine am_aload_n dX7_undoCount_0 0 rfl ?_
  refine am_get (v := .int (m.1 2)) dX7_undoCount_1 kGX7_206 (hmc221 (m := m) hm) rfl ?_
  rw [show (fX7_undoCount m ) = (m.1 2) from rfl]
  exact am_ireturn dX7_undoCount_4 rfl rfl ⟨rfl, rfl⟩

theorem dX7_board_0 : decode cX7_board 0 = .ok (.aload_n 0, 1) := by decide +kernel
theorem dX7_board_1 : decode cX7_board 1 = .ok (.iload_n 1, 1) := by decide +kernel
theorem dX7_board_2 : decode cX7_board 2 = .ok (.invokevirtual 150, 3) := by decide +kernel
theorem dX7_board_5 : decode cX7_board 5 = .ok (.ifCond .eq 11, 3) := by decide +kernel
theorem dX7_board_8 : decode cX7_board 8 = .ok (.aload_n 0, 1) := by decide +kernel
theorem dX7_board_9 : decode cX7_board 9 = .ok (.iload_n 2, 1) := by decide +kernel
theorem dX7_board_10 : decode cX7_board 10 = .ok (.invokevirtual 155, 3) := by decide +kernel
theorem dX7_board_13 : decode cX7_board 13 = .ok (.ifCond .ne 6, 3) := by decide +kernel
theorem dX7_board_16 : decode cX7_board 16 = .ok (.bipush (-2), 2) := by decide +kernel
theorem dX7_board_18 : decode cX7_board 18 = .ok (.ireturn, 1) := by decide +kernel
theorem dX7_board_19 : decode cX7_board 19 = .ok (.aload_n 0, 1) := by decide +kernel
theorem dX7_board_20 : decode cX7_board 20 = .ok (.iload_n 1, 1) := by decide +kernel
theorem dX7_board_21 : decode cX7_board 21 = .ok (.invokevirtual 158, 3) := by decide +kernel
theorem dX7_board_24 : decode cX7_board 24 = .ok (.ifCond .eq 6, 3) := by decide +kernel
theorem dX7_board_27 : decode cX7_board 27 = .ok (.bipush (-6), 2) := by decide +kernel
theorem dX7_board_29 : decode cX7_board 29 = .ok (.ireturn, 1) := by decide +kernel
theorem dX7_board_30 : decode cX7_board 30 = .ok (.aload_n 0, 1) := by decide +kernel
theorem dX7_board_31 : decode cX7_board 31 = .ok (.iload_n 1, 1) := by decide +kernel
theorem dX7_board_32 : decode cX7_board 32 = .ok (.iconst 0, 1) := by decide +kernel
theorem dX7_board_33 : decode cX7_board 33 = .ok (.invokevirtual 89, 3) := by decide +kernel
theorem dX7_board_36 : decode cX7_board 36 = .ok (.ifCond .ne 27, 3) := by decide +kernel
theorem dX7_board_39 : decode cX7_board 39 = .ok (.aload_n 0, 1) := by decide +kernel
theorem dX7_board_40 : decode cX7_board 40 = .ok (.iload_n 1, 1) := by decide +kernel
theorem dX7_board_41 : decode cX7_board 41 = .ok (.iload_n 2, 1) := by decide +kernel
theorem dX7_board_42 : decode cX7_board 42 = .ok (.invokevirtual 78, 3) := by decide +kernel
theorem dX7_board_45 : decode cX7_board 45 = .ok (.ifCond .ne 18, 3) := by decide +kernel
theorem dX7_board_48 : decode cX7_board 48 = .ok (.aload_n 0, 1) := by decide +kernel
theorem dX7_board_49 : decode cX7_board 49 = .ok (.iload_n 1, 1) := by decide +kernel
theorem dX7_board_50 : decode cX7_board 50 = .ok (.iload_n 2, 1) := by decide +kernel
theorem dX7_board_51 : decode cX7_board 51 = .ok (.invokevirtual 82, 3) := by decide +kernel
theorem dX7_board_54 : decode cX7_board 54 = .ok (.aload_n 0, 1) := by decide +kernel
theorem dX7_board_55 : decode cX7_board 55 = .ok (.iload_n 1, 1) := by decide +kernel
theorem dX7_board_56 : decode cX7_board 56 = .ok (.iconst 3, 1) := by decide +kernel
theorem dX7_board_57 : decode cX7_board 57 = .ok (.invokevirtual 60, 3) := by decide +kernel
theorem dX7_board_60 : decode cX7_board 60 = .ok (.if_icmp .eq 7, 3) := by decide +kernel
theorem dX7_board_63 : decode cX7_board 63 = .ok (.iconst 1, 1) := by decide +kernel
theorem dX7_board_64 : decode cX7_board 64 = .ok (.goto 4, 3) := by decide +kernel
theorem dX7_board_67 : decode cX7_board 67 = .ok (.iconst 0, 1) := by decide +kernel
theorem dX7_board_68 : decode cX7_board 68 = .ok (.istore_n 3, 1) := by decide +kernel
theorem dX7_board_69 : decode cX7_board 69 = .ok (.iload_n 3, 1) := by decide +kernel
theorem dX7_board_70 : decode cX7_board 70 = .ok (.ifCond .eq 7, 3) := by decide +kernel
theorem dX7_board_73 : decode cX7_board 73 = .ok (.aload_n 0, 1) := by decide +kernel
theorem dX7_board_74 : decode cX7_board 74 = .ok (.invokevirtual 209, 3) := by decide +kernel
theorem dX7_board_77 : decode cX7_board 77 = .ok (.aload_n 0, 1) := by decide +kernel
theorem dX7_board_78 : decode cX7_board 78 = .ok (.iload_n 1, 1) := by decide +kernel
theorem dX7_board_79 : decode cX7_board 79 = .ok (.iload_n 2, 1) := by decide +kernel
theorem dX7_board_80 : decode cX7_board 80 = .ok (.invokevirtual 92, 3) := by decide +kernel
theorem dX7_board_83 : decode cX7_board 83 = .ok (.istore 4, 2) := by decide +kernel
theorem dX7_board_85 : decode cX7_board 85 = .ok (.aload_n 0, 1) := by decide +kernel
theorem dX7_board_86 : decode cX7_board 86 = .ok (.iload_n 1, 1) := by decide +kernel
theorem dX7_board_87 : decode cX7_board 87 = .ok (.iconst 5, 1) := by decide +kernel
theorem dX7_board_88 : decode cX7_board 88 = .ok (.invokevirtual 60, 3) := by decide +kernel
theorem dX7_board_91 : decode cX7_board 91 = .ok (.ireturn, 1) := by decide +kernel
def fX7_board (m : Md) (z1 : Int32) (z2 : Int32) : Int32 × Md := (if (fX7_isPiece m z1) = 0 then ((-2), m) else (if (fX7_isShape m z2) = 0 then ((-2), m) else (if (fX7_isDone m z1) = 0 then (if (fX7_isIn m z1 0) = 0 then (if (fX7_wouldTear m z1 z2) = 0 then (if (fX7_lengthOn m z1 z2) = (fX7_field m z1 3) then (bnd (fX7_put m z1 z2) (fun r78 => ((fX7_field r78.2 z1 5), r78.2))) else (bnd (fX7_remember m ) (fun r90 => (bnd (fX7_put r90 z1 z2) (fun r97 => ((fX7_field r97.2 z1 5), r97.2)))))) else (bnd (fX7_remember m ) (fun r50 => (bnd (fX7_put r50 z1 z2) (fun r57 => ((fX7_field r57.2 z1 5), r57.2)))))) else (bnd (fX7_remember m ) (fun r26 => (bnd (fX7_put r26 z1 z2) (fun r33 => ((fX7_field r33.2 z1 5), r33.2)))))) else ((-6), m))))
def sX7_board (m : Md) (z1 : Int32) (z2 : Int32) : Prop := ((sX7_isPiece m z1) ∧ (((fX7_isPiece m z1) = 0 → True) ∧ (¬ (fX7_isPiece m z1) = 0 → ((sX7_isShape m z2) ∧ (((fX7_isShape m z2) = 0 → True) ∧ (¬ (fX7_isShape m z2) = 0 → ((sX7_isDone m z1) ∧ (((fX7_isDone m z1) = 0 → ((sX7_isIn m z1 0) ∧ (((fX7_isIn m z1 0) = 0 → ((sX7_wouldTear m z1 z2) ∧ (((fX7_wouldTear m z1 z2) = 0 → ((sX7_lengthOn m z1 z2) ∧ ((sX7_field m z1 3) ∧ (((fX7_lengthOn m z1 z2) = (fX7_field m z1 3) → ((sX7_put m z1 z2) ∧ (bnd (fX7_put m z1 z2) (fun r78 => ((sX7_field r78.2 z1 5) ∧ True))))) ∧ (¬ (fX7_lengthOn m z1 z2) = (fX7_field m z1 3) → ((sX7_remember m ) ∧ (bnd (fX7_remember m ) (fun r90 => ((sX7_put r90 z1 z2) ∧ (bnd (fX7_put r90 z1 z2) (fun r97 => ((sX7_field r97.2 z1 5) ∧ True)))))))))))) ∧ (¬ (fX7_wouldTear m z1 z2) = 0 → ((sX7_remember m ) ∧ (bnd (fX7_remember m ) (fun r50 => ((sX7_put r50 z1 z2) ∧ (bnd (fX7_put r50 z1 z2) (fun r57 => ((sX7_field r57.2 z1 5) ∧ True))))))))))) ∧ (¬ (fX7_isIn m z1 0) = 0 → ((sX7_remember m ) ∧ (bnd (fX7_remember m ) (fun r26 => ((sX7_put r26 z1 z2) ∧ (bnd (fX7_put r26 z1 z2) (fun r33 => ((sX7_field r33.2 z1 5) ∧ True))))))))))) ∧ (¬ (fX7_isDone m z1) = 0 → True)))))))))
set_option maxRecDepth 20000 in
theorem ctX7_board {l : Launch} {G : GM} {K : Nat → Option va_E} {h : List va_E} {m : Md} (hm : HM G K h m) (z1 : Int32) (z2 : Int32) (hs : sX7_board m z1 z2) : Ct l G mX7_board 6 0 0 [.ref (gz G + 221), .int z1, .int z2] h (fun v h1 => ∃ r, (fX7_board m z1 z2) = r ∧ v = some (.int r.1) ∧ HM G K h1 r.2) := by
  show Tr l G mX7_board 6 0 0 0 [(0, .ref (gz G + 221)), (1, .int z1), (2, .int z2)] [] h _
  unfold sX7_board at hs
  refine am_aload_n dX7_board_0 0 rfl ?_
  refine am_iload_n dX7_board_1 1 rfl ?_
  obtain ⟨i1, hs⟩ := hs
  refine am_callV (As := [.int z1]) (rest := []) dX7_board_2 kMX7_150 rfl (hmc221 (m := m) hm) rfl rfl (Nat.le_of_ble_eq_true rfl) (d2 := 1) (by decide) (k2 := 0) (Nat.zero_le _) (u2 := 0) (Nat.zero_le _) (Nat.le_of_ble_eq_true rfl) (ctX7_isPiece (m := m) hm z1 i1) (fun v2 h3 q4 => ?_)
  obtain ⟨rfl, rfl⟩ := q4
  refine am_if_eq dX7_board_5 (by decide : ((5 : Nat) : Int) + (11) = ((16 : Nat) : Int)) (fun c5 => ?_) (fun c5 => ?_)
  · have hs := hs.1 c5
    refine am_bipush (v := (-2)) dX7_board_16 (by decide) ?_
    exact am_ireturn dX7_board_18 rfl rfl ⟨_, ifp c5 (rfl), rfl, hm⟩
  · have hs := hs.2 c5
    refine am_aload_n dX7_board_8 0 rfl ?_
    refine am_iload_n dX7_board_9 2 rfl ?_
    obtain ⟨i6, hs⟩ := hs
    refine am_callV (As := [.int z2]) (rest := []) dX7_board_10 kMX7_155 rfl (hmc221 (m := m) hm) rfl rfl (Nat.le_of_ble_eq_true rfl) (d2 := 1) (by decide) (k2 := 0) (Nat.zero_le _) (u2 := 0) (Nat.zero_le _) (Nat.le_of_ble_eq_true rfl) (ctX7_isShape (m := m) hm z2 i6) (fun v7 h8 q9 => ?_)
    obtain ⟨rfl, rfl⟩ := q9
    refine am_if_ne dX7_board_13 (by decide : ((13 : Nat) : Int) + (6) = ((19 : Nat) : Int)) (fun c10 => ?_) (fun c10 => ?_)
    · have hs := hs.2 c10
      refine am_aload_n dX7_board_19 0 rfl ?_
      refine am_iload_n dX7_board_20 1 rfl ?_
      obtain ⟨i11, hs⟩ := hs
      refine am_callV (As := [.int z1]) (rest := []) dX7_board_21 kMX7_158 rfl (hmc221 (m := m) hm) rfl rfl (Nat.le_of_ble_eq_true rfl) (d2 := 3) (by decide) (k2 := 0) (Nat.zero_le _) (u2 := 0) (Nat.zero_le _) (Nat.le_of_ble_eq_true rfl) (ctX7_isDone (m := m) hm z1 i11) (fun v12 h13 q14 => ?_)
      obtain ⟨rfl, rfl⟩ := q14
      refine am_if_eq dX7_board_24 (by decide : ((24 : Nat) : Int) + (6) = ((30 : Nat) : Int)) (fun c15 => ?_) (fun c15 => ?_)
      · have hs := hs.1 c15
        refine am_aload_n dX7_board_30 0 rfl ?_
        refine am_iload_n dX7_board_31 1 rfl ?_
        refine am_iconst (v := 0) dX7_board_32 (by decide) ?_
        obtain ⟨i16, hs⟩ := hs
        refine am_callV (As := [.int z1, .int 0]) (rest := []) dX7_board_33 kMX7_89 rfl (hmc221 (m := m) hm) rfl rfl (Nat.le_of_ble_eq_true rfl) (d2 := 2) (by decide) (k2 := 0) (Nat.zero_le _) (u2 := 0) (Nat.zero_le _) (Nat.le_of_ble_eq_true rfl) (ctX7_isIn (m := m) hm z1 0 i16) (fun v17 h18 q19 => ?_)
        obtain ⟨rfl, rfl⟩ := q19
        refine am_if_ne dX7_board_36 (by decide : ((36 : Nat) : Int) + (27) = ((63 : Nat) : Int)) (fun c20 => ?_) (fun c20 => ?_)
        · have hs := hs.2 c20
          refine am_iconst (v := 1) dX7_board_63 (by decide) ?_
          refine am_goto dX7_board_64 (by decide : ((64 : Nat) : Int) + (4) = ((68 : Nat) : Int)) ?_
          refine am_istore_n dX7_board_68 (by decide) (lv' := [(3, .int 1), (0, .ref (gz G + 221)), (1, .int z1), (2, .int z2)]) rfl ?_
          refine am_iload_n dX7_board_69 0 rfl ?_
          refine am_if_eq dX7_board_70 (by decide : ((70 : Nat) : Int) + (7) = ((77 : Nat) : Int)) (fun q => absurd q (by decide)) (fun _ => ?_)
          refine am_aload_n dX7_board_73 1 rfl ?_
          obtain ⟨i22, hs⟩ := hs
          refine am_callV (As := []) (rest := []) dX7_board_74 kMX7_209 rfl (hmc221 (m := m) hm) rfl rfl (Nat.le_of_ble_eq_true rfl) (d2 := 0) (by decide) (k2 := 0) (Nat.zero_le _) (u2 := 0) (Nat.zero_le _) (Nat.le_of_ble_eq_true rfl) (ctX7_remember (m := m) hm  i22) (fun v23 h24 q25 => ?_)
          obtain ⟨r26, e27, rfl, w28⟩ := q25
          have hs := bnd_p e27 hs
          refine am_aload_n dX7_board_77 1 rfl ?_
          refine am_iload_n dX7_board_78 2 rfl ?_
          refine am_iload_n dX7_board_79 3 rfl ?_
          obtain ⟨i29, hs⟩ := hs
          refine am_callV (As := [.int z1, .int z2]) (rest := []) dX7_board_80 kMX7_92 rfl (hmc221 (m := r26) w28) rfl rfl (Nat.le_of_ble_eq_true rfl) (d2 := 5) (by decide) (k2 := 0) (Nat.zero_le _) (u2 := 0) (Nat.zero_le _) (Nat.le_of_ble_eq_true rfl) (ctX7_put (m := r26) w28 z1 z2 i29) (fun v30 h31 q32 => ?_)
          obtain ⟨r33, e34, rfl, w35⟩ := q32
          have hs := bnd_p e34 hs
          refine am_istore dX7_board_83 (by decide) (lv' := [(4, .int r33.1), (3, .int 1), (0, .ref (gz G + 221)), (1, .int z1), (2, .int z2)]) rfl ?_
          refine am_aload_n dX7_board_85 2 rfl ?_
          refine am_iload_n dX7_board_86 3 rfl ?_
          refine am_iconst (v := 5) dX7_board_87 (by decide) ?_
          obtain ⟨i36, hs⟩ := hs
          refine am_callV (As := [.int z1, .int 5]) (rest := []) dX7_board_88 kMX7_60 rfl (hmc221 (m := r33.2) w35) rfl rfl (Nat.le_of_ble_eq_true rfl) (d2 := 1) (by decide) (k2 := 0) (Nat.zero_le _) (u2 := 0) (Nat.zero_le _) (Nat.le_of_ble_eq_true rfl) (ctX7_field (m := r33.2) w35 z1 5 i36) (fun v37 h38 q39 => ?_)
          obtain ⟨rfl, rfl⟩ := q39
          exact am_ireturn dX7_board_91 rfl rfl ⟨_, ifn c5 (ifn c10 (ifp c15 (ifn c20 (bnd_eq e27 (bnd_eq e34 (rfl)))))), rfl, w35⟩
        · have hs := hs.1 c20
          refine am_aload_n dX7_board_39 0 rfl ?_
          refine am_iload_n dX7_board_40 1 rfl ?_
          refine am_iload_n dX7_board_41 2 rfl ?_
          obtain ⟨i40, hs⟩ := hs
          refine am_callV (As := [.int z1, .int z2]) (rest := []) dX7_board_42 kMX7_78 rfl (hmc221 (m := m) hm) rfl rfl (Nat.le_of_ble_eq_true rfl) (d2 := 4) (by decide) (k2 := 0) (Nat.zero_le _) (u2 := 0) (Nat.zero_le _) (Nat.le_of_ble_eq_true rfl) (ctX7_wouldTear (m := m) hm z1 z2 i40) (fun v41 h42 q43 => ?_)
          obtain ⟨rfl, rfl⟩ := q43
          refine am_if_ne dX7_board_45 (by decide : ((45 : Nat) : Int) + (18) = ((63 : Nat) : Int)) (fun c44 => ?_) (fun c44 => ?_)
          · have hs := hs.2 c44
            refine am_iconst (v := 1) dX7_board_63 (by decide) ?_
            refine am_goto dX7_board_64 (by decide : ((64 : Nat) : Int) + (4) = ((68 : Nat) : Int)) ?_
            refine am_istore_n dX7_board_68 (by decide) (lv' := [(3, .int 1), (0, .ref (gz G + 221)), (1, .int z1), (2, .int z2)]) rfl ?_
            refine am_iload_n dX7_board_69 0 rfl ?_
            refine am_if_eq dX7_board_70 (by decide : ((70 : Nat) : Int) + (7) = ((77 : Nat) : Int)) (fun q => absurd q (by decide)) (fun _ => ?_)
            refine am_aload_n dX7_board_73 1 rfl ?_
            obtain ⟨i46, hs⟩ := hs
            refine am_callV (As := []) (rest := []) dX7_board_74 kMX7_209 rfl (hmc221 (m := m) hm) rfl rfl (Nat.le_of_ble_eq_true rfl) (d2 := 0) (by decide) (k2 := 0) (Nat.zero_le _) (u2 := 0) (Nat.zero_le _) (Nat.le_of_ble_eq_true rfl) (ctX7_remember (m := m) hm  i46) (fun v47 h48 q49 => ?_)
            obtain ⟨r50, e51, rfl, w52⟩ := q49
            have hs := bnd_p e51 hs
            refine am_aload_n dX7_board_77 1 rfl ?_
            refine am_iload_n dX7_board_78 2 rfl ?_
            refine am_iload_n dX7_board_79 3 rfl ?_
            obtain ⟨i53, hs⟩ := hs
            refine am_callV (As := [.int z1, .int z2]) (rest := []) dX7_board_80 kMX7_92 rfl (hmc221 (m := r50) w52) rfl rfl (Nat.le_of_ble_eq_true rfl) (d2 := 5) (by decide) (k2 := 0) (Nat.zero_le _) (u2 := 0) (Nat.zero_le _) (Nat.le_of_ble_eq_true rfl) (ctX7_put (m := r50) w52 z1 z2 i53) (fun v54 h55 q56 => ?_)
            obtain ⟨r57, e58, rfl, w59⟩ := q56
            have hs := bnd_p e58 hs
            refine am_istore dX7_board_83 (by decide) (lv' := [(4, .int r57.1), (3, .int 1), (0, .ref (gz G + 221)), (1, .int z1), (2, .int z2)]) rfl ?_
            refine am_aload_n dX7_board_85 2 rfl ?_
            refine am_iload_n dX7_board_86 3 rfl ?_
            refine am_iconst (v := 5) dX7_board_87 (by decide) ?_
            obtain ⟨i60, hs⟩ := hs
            refine am_callV (As := [.int z1, .int 5]) (rest := []) dX7_board_88 kMX7_60 rfl (hmc221 (m := r57.2) w59) rfl rfl (Nat.le_of_ble_eq_true rfl) (d2 := 1) (by decide) (k2 := 0) (Nat.zero_le _) (u2 := 0) (Nat.zero_le _) (Nat.le_of_ble_eq_true rfl) (ctX7_field (m := r57.2) w59 z1 5 i60) (fun v61 h62 q63 => ?_)
            obtain ⟨rfl, rfl⟩ := q63
            exact am_ireturn dX7_board_91 rfl rfl ⟨_, ifn c5 (ifn c10 (ifp c15 (ifp c20 (ifn c44 (bnd_eq e51 (bnd_eq e58 (rfl))))))), rfl, w59⟩
          · have hs := hs.1 c44
            refine am_aload_n dX7_board_48 0 rfl ?_
            refine am_iload_n dX7_board_49 1 rfl ?_
            refine am_iload_n dX7_board_50 2 rfl ?_
            obtain ⟨i64, hs⟩ := hs
            refine am_callV (As := [.int z1, .int z2]) (rest := []) dX7_board_51 kMX7_82 rfl (hmc221 (m := m) hm) rfl rfl (Nat.le_of_ble_eq_true rfl) (d2 := 2) (by decide) (k2 := 0) (Nat.zero_le _) (u2 := 0) (Nat.zero_le _) (Nat.le_of_ble_eq_true rfl) (ctX7_lengthOn (m := m) hm z1 z2 i64) (fun v65 h66 q67 => ?_)
            obtain ⟨rfl, rfl⟩ := q67
            refine am_aload_n dX7_board_54 0 rfl ?_
            refine am_iload_n dX7_board_55 1 rfl ?_
            refine am_iconst (v := 3) dX7_board_56 (by decide) ?_
            obtain ⟨i68, hs⟩ := hs
            refine am_callV (As := [.int z1, .int 3]) (rest := [.int (fX7_lengthOn m z1 z2)]) dX7_board_57 kMX7_60 rfl (hmc221 (m := m) hm) rfl rfl (Nat.le_of_ble_eq_true rfl) (d2 := 1) (by decide) (k2 := 0) (Nat.zero_le _) (u2 := 0) (Nat.zero_le _) (Nat.le_of_ble_eq_true rfl) (ctX7_field (m := m) hm z1 3 i68) (fun v69 h70 q71 => ?_)
            obtain ⟨rfl, rfl⟩ := q71
            refine am_icmp_eq dX7_board_60 (by decide : ((60 : Nat) : Int) + (7) = ((67 : Nat) : Int)) (fun c72 => ?_) (fun c72 => ?_)
            · have hs := hs.1 c72
              refine am_iconst (v := 0) dX7_board_67 (by decide) ?_
              refine am_istore_n dX7_board_68 (by decide) (lv' := [(3, .int 0), (0, .ref (gz G + 221)), (1, .int z1), (2, .int z2)]) rfl ?_
              refine am_iload_n dX7_board_69 0 rfl ?_
              refine am_if_eq dX7_board_70 (by decide : ((70 : Nat) : Int) + (7) = ((77 : Nat) : Int)) (fun _ => ?_) (fun q => absurd q (by decide))
              refine am_aload_n dX7_board_77 1 rfl ?_
              refine am_iload_n dX7_board_78 2 rfl ?_
              refine am_iload_n dX7_board_79 3 rfl ?_
              obtain ⟨i74, hs⟩ := hs
              refine am_callV (As := [.int z1, .int z2]) (rest := []) dX7_board_80 kMX7_92 rfl (hmc221 (m := m) hm) rfl rfl (Nat.le_of_ble_eq_true rfl) (d2 := 5) (by decide) (k2 := 0) (Nat.zero_le _) (u2 := 0) (Nat.zero_le _) (Nat.le_of_ble_eq_true rfl) (ctX7_put (m := m) hm z1 z2 i74) (fun v75 h76 q77 => ?_)
              obtain ⟨r78, e79, rfl, w80⟩ := q77
              have hs := bnd_p e79 hs
              refine am_istore dX7_board_83 (by decide) (lv' := [(4, .int r78.1), (3, .int 0), (0, .ref (gz G + 221)), (1, .int z1), (2, .int z2)]) rfl ?_
              refine am_aload_n dX7_board_85 2 rfl ?_
              refine am_iload_n dX7_board_86 3 rfl ?_
              refine am_iconst (v := 5) dX7_board_87 (by decide) ?_
              obtain ⟨i81, hs⟩ := hs
              refine am_callV (As := [.int z1, .int 5]) (rest := []) dX7_board_88 kMX7_60 rfl (hmc221 (m := r78.2) w80) rfl rfl (Nat.le_of_ble_eq_true rfl) (d2 := 1) (by decide) (k2 := 0) (Nat.zero_le _) (u2 := 0) (Nat.zero_le _) (Nat.le_of_ble_eq_true rfl) (ctX7_field (m := r78.2) w80 z1 5 i81) (fun v82 h83 q84 => ?_)
              obtain ⟨rfl, rfl⟩ := q84
              exact am_ireturn dX7_board_91 rfl rfl ⟨_, ifn c5 (ifn c10 (ifp c15 (ifp c20 (ifp c44 (ifp c72 (bnd_eq e79 (rfl))))))), rfl, w80⟩
            · have hs := hs.2 c72
              refine am_iconst (v := 1) dX7_board_63 (by decide) ?_
              refine am_goto dX7_board_64 (by decide : ((64 : Nat) : Int) + (4) = ((68 : Nat) : Int)) ?_
              refine am_istore_n dX7_board_68 (by decide) (lv' := [(3, .int 1), (0, .ref (gz G + 221)), (1, .int z1), (2, .int z2)]) rfl ?_
              refine am_iload_n dX7_board_69 0 rfl ?_
              refine am_if_eq dX7_board_70 (by decide : ((70 : Nat) : Int) + (7) = ((77 : Nat) : Int)) (fun q => absurd q (by decide)) (fun _ => ?_)
              refine am_aload_n dX7_board_73 1 rfl ?_
              obtain ⟨i86, hs⟩ := hs
              refine am_callV (As := []) (rest := []) dX7_board_74 kMX7_209 rfl (hmc221 (m := m) hm) rfl rfl (Nat.le_of_ble_eq_true rfl) (d2 := 0) (by decide) (k2 := 0) (Nat.zero_le _) (u2 := 0) (Nat.zero_le _) (Nat.le_of_ble_eq_true rfl) (ctX7_remember (m := m) hm  i86) (fun v87 h88 q89 => ?_)
              obtain ⟨r90, e91, rfl, w92⟩ := q89
              have hs := bnd_p e91 hs
              refine am_aload_n dX7_board_77 1 rfl ?_
              refine am_iload_n dX7_board_78 2 rfl ?_
              refine am_iload_n dX7_board_79 3 rfl ?_
              obtain ⟨i93, hs⟩ := hs
              refine am_callV (As := [.int z1, .int z2]) (rest := []) dX7_board_80 kMX7_92 rfl (hmc221 (m := r90) w92) rfl rfl (Nat.le_of_ble_eq_true rfl) (d2 := 5) (by decide) (k2 := 0) (Nat.zero_le _) (u2 := 0) (Nat.zero_le _) (Nat.le_of_ble_eq_true rfl) (ctX7_put (m := r90) w92 z1 z2 i93) (fun v94 h95 q96 => ?_)
              obtain ⟨r97, e98, rfl, w99⟩ := q96
              have hs := bnd_p e98 hs
              refine am_istore dX7_board_83 (by decide) (lv' := [(4, .int r97.1), (3, .int 1), (0, .ref (gz G + 221)), (1, .int z1), (2, .int z2)]) rfl ?_
              refine am_aload_n dX7_board_85 2 rfl ?_
              refine am_iload_n dX7_board_86 3 rfl ?_
              refine am_iconst (v := 5) dX7_board_87 (by decide) ?_
              obtain ⟨i100, hs⟩ := hs
              refine am_callV (As := [.int z1, .int 5]) (rest := []) dX7_board_88 kMX7_60 rfl (hmc221 (m := r97.2) w99) rfl rfl (Nat.le_of_ble_eq_true rfl) (d2 := 1) (by decide) (k2 := 0) (Nat.zero_le _) (u2 := 0) (Nat.zero_le _) (Nat.le_of_ble_eq_true rfl) (ctX7_field (m := r97.2) w99 z1 5 i100) (fun v101 h102 q103 => ?_)
              obtain ⟨rfl, rfl⟩ := q103
              exact am_ireturn dX7_board_91 rfl rfl ⟨_, ifn c5 (ifn c10 (ifp c15 (ifp c20 (ifp c44 (ifn c72 (bnd_eq e91 (bnd_eq e98 (rfl)))))))), rfl, w99⟩
      · have hs := hs.2 c15
        refine am_bipush (v := (-6)) dX7_board_27 (by decide) ?_
        exact am_ireturn dX7_board_29 rfl rfl ⟨_, ifn c5 (ifn c10 (ifn c15 (rfl))), rfl, hm⟩
    · have hs := hs.1 c10
      refine am_bipush (v := (-2)) dX7_board_16 (by decide) ?_
      exact am_ireturn dX7_board_18 rfl rfl ⟨_, ifn c5 (ifp c10 (rfl)), rfl, hm⟩

theorem dX7_boardAll_0 : decode cX7_boardAll 0 = .ok (.aload_n 0, 1) := by decide +kernel
theorem dX7_boardAll_1 : decode cX7_boardAll 1 = .ok (.iload_n 1, 1) := by decide +kernel
theorem dX7_boardAll_2 : decode cX7_boardAll 2 = .ok (.invokevirtual 155, 3) := by decide +kernel
theorem dX7_boardAll_5 : decode cX7_boardAll 5 = .ok (.ifCond .ne 6, 3) := by decide +kernel
theorem dX7_boardAll_8 : decode cX7_boardAll 8 = .ok (.bipush (-2), 2) := by decide +kernel
theorem dX7_boardAll_10 : decode cX7_boardAll 10 = .ok (.ireturn, 1) := by decide +kernel
theorem dX7_boardAll_11 : decode cX7_boardAll 11 = .ok (.aload_n 0, 1) := by decide +kernel
theorem dX7_boardAll_12 : decode cX7_boardAll 12 = .ok (.iconst 0, 1) := by decide +kernel
theorem dX7_boardAll_13 : decode cX7_boardAll 13 = .ok (.invokevirtual 212, 3) := by decide +kernel
theorem dX7_boardAll_16 : decode cX7_boardAll 16 = .ok (.ifCond .ne 5, 3) := by decide +kernel
theorem dX7_boardAll_19 : decode cX7_boardAll 19 = .ok (.iconst (-1), 1) := by decide +kernel
theorem dX7_boardAll_20 : decode cX7_boardAll 20 = .ok (.ireturn, 1) := by decide +kernel
theorem dX7_boardAll_21 : decode cX7_boardAll 21 = .ok (.aload_n 0, 1) := by decide +kernel
theorem dX7_boardAll_22 : decode cX7_boardAll 22 = .ok (.invokevirtual 209, 3) := by decide +kernel
theorem dX7_boardAll_25 : decode cX7_boardAll 25 = .ok (.aload_n 0, 1) := by decide +kernel
theorem dX7_boardAll_26 : decode cX7_boardAll 26 = .ok (.iload_n 1, 1) := by decide +kernel
theorem dX7_boardAll_27 : decode cX7_boardAll 27 = .ok (.invokevirtual 187, 3) := by decide +kernel
theorem dX7_boardAll_30 : decode cX7_boardAll 30 = .ok (.ireturn, 1) := by decide +kernel
def fX7_boardAll (m : Md) (z1 : Int32) : Int32 × Md := (if (fX7_isShape m z1) = 0 then ((-2), m) else (if (fX7_inState m 0) = 0 then ((-1), m) else (bnd (fX7_remember m ) (fun r15 => (bnd (fX7_putAll r15 z1) (fun r22 => (r22.1, r22.2)))))))
def sX7_boardAll (m : Md) (z1 : Int32) : Prop := ((sX7_isShape m z1) ∧ (((fX7_isShape m z1) = 0 → True) ∧ (¬ (fX7_isShape m z1) = 0 → ((sX7_inState m 0) ∧ (((fX7_inState m 0) = 0 → True) ∧ (¬ (fX7_inState m 0) = 0 → ((sX7_remember m ) ∧ (bnd (fX7_remember m ) (fun r15 => ((sX7_putAll r15 z1) ∧ (bnd (fX7_putAll r15 z1) (fun r22 => True))))))))))))
set_option maxRecDepth 20000 in
theorem ctX7_boardAll {l : Launch} {G : GM} {K : Nat → Option va_E} {h : List va_E} {m : Md} (hm : HM G K h m) (z1 : Int32) (hs : sX7_boardAll m z1) : Ct l G mX7_boardAll 7 0 0 [.ref (gz G + 221), .int z1] h (fun v h1 => ∃ r, (fX7_boardAll m z1) = r ∧ v = some (.int r.1) ∧ HM G K h1 r.2) := by
  show Tr l G mX7_boardAll 7 0 0 0 [(0, .ref (gz G + 221)), (1, .int z1)] [] h _
  unfold sX7_boardAll at hs
  refine am_aload_n dX7_boardAll_0 0 rfl ?_
  refine am_iload_n dX7_boardAll_1 1 rfl ?_
  obtain ⟨i1, hs⟩ := hs
  refine am_callV (As := [.int z1]) (rest := []) dX7_boardAll_2 kMX7_155 rfl (hmc221 (m := m) hm) rfl rfl (Nat.le_of_ble_eq_true rfl) (d2 := 1) (by decide) (k2 := 0) (Nat.zero_le _) (u2 := 0) (Nat.zero_le _) (Nat.le_of_ble_eq_true rfl) (ctX7_isShape (m := m) hm z1 i1) (fun v2 h3 q4 => ?_)
  obtain ⟨rfl, rfl⟩ := q4
  refine am_if_ne dX7_boardAll_5 (by decide : ((5 : Nat) : Int) + (6) = ((11 : Nat) : Int)) (fun c5 => ?_) (fun c5 => ?_)
  · have hs := hs.2 c5
    refine am_aload_n dX7_boardAll_11 0 rfl ?_
    refine am_iconst (v := 0) dX7_boardAll_12 (by decide) ?_
    obtain ⟨i6, hs⟩ := hs
    refine am_callV (As := [.int 0]) (rest := []) dX7_boardAll_13 kMX7_212 rfl (hmc221 (m := m) hm) rfl rfl (Nat.le_of_ble_eq_true rfl) (d2 := 3) (by decide) (k2 := 0) (Nat.zero_le _) (u2 := 0) (Nat.zero_le _) (Nat.le_of_ble_eq_true rfl) (ctX7_inState (m := m) hm 0 i6) (fun v7 h8 q9 => ?_)
    obtain ⟨rfl, rfl⟩ := q9
    refine am_if_ne dX7_boardAll_16 (by decide : ((16 : Nat) : Int) + (5) = ((21 : Nat) : Int)) (fun c10 => ?_) (fun c10 => ?_)
    · have hs := hs.2 c10
      refine am_aload_n dX7_boardAll_21 0 rfl ?_
      obtain ⟨i11, hs⟩ := hs
      refine am_callV (As := []) (rest := []) dX7_boardAll_22 kMX7_209 rfl (hmc221 (m := m) hm) rfl rfl (Nat.le_of_ble_eq_true rfl) (d2 := 0) (by decide) (k2 := 0) (Nat.zero_le _) (u2 := 0) (Nat.zero_le _) (Nat.le_of_ble_eq_true rfl) (ctX7_remember (m := m) hm  i11) (fun v12 h13 q14 => ?_)
      obtain ⟨r15, e16, rfl, w17⟩ := q14
      have hs := bnd_p e16 hs
      refine am_aload_n dX7_boardAll_25 0 rfl ?_
      refine am_iload_n dX7_boardAll_26 1 rfl ?_
      obtain ⟨i18, hs⟩ := hs
      refine am_callV (As := [.int z1]) (rest := []) dX7_boardAll_27 kMX7_187 rfl (hmc221 (m := r15) w17) rfl rfl (Nat.le_of_ble_eq_true rfl) (d2 := 6) (by decide) (k2 := 0) (Nat.zero_le _) (u2 := 0) (Nat.zero_le _) (Nat.le_of_ble_eq_true rfl) (ctX7_putAll (m := r15) w17 z1 i18) (fun v19 h20 q21 => ?_)
      obtain ⟨r22, e23, rfl, w24⟩ := q21
      have hs := bnd_p e23 hs
      exact am_ireturn dX7_boardAll_30 rfl rfl ⟨_, ifn c5 (ifn c10 (bnd_eq e16 (bnd_eq e23 (rfl)))), rfl, w24⟩
    · have hs := hs.1 c10
      refine am_iconst (v := (-1)) dX7_boardAll_19 (by decide) ?_
      exact am_ireturn dX7_boardAll_20 rfl rfl ⟨_, ifn c5 (ifp c10 (rfl)), rfl, hm⟩
  · have hs := hs.1 c5
    refine am_bipush (v := (-2)) dX7_boardAll_8 (by decide) ?_
    exact am_ireturn dX7_boardAll_10 rfl rfl ⟨_, ifp c5 (rfl), rfl, hm⟩

theorem dX7_day_0 : decode cX7_day 0 = .ok (.aload_n 0, 1) := by decide +kernel
theorem dX7_day_1 : decode cX7_day 1 = .ok (.invokevirtual 209, 3) := by decide +kernel
theorem dX7_day_4 : decode cX7_day 4 = .ok (.aload_n 0, 1) := by decide +kernel
theorem dX7_day_5 : decode cX7_day 5 = .ok (.invokevirtual 184, 3) := by decide +kernel
theorem dX7_day_8 : decode cX7_day 8 = .ok (.ireturn, 1) := by decide +kernel
def fX7_day (m : Md)  : Int32 × Md := (bnd (fX7_remember m ) (fun r5 => (bnd (fX7_pass r5 ) (fun r12 => (r12.1, r12.2)))))
def sX7_day (m : Md)  : Prop := ((sX7_remember m ) ∧ (bnd (fX7_remember m ) (fun r5 => ((sX7_pass r5 ) ∧ (bnd (fX7_pass r5 ) (fun r12 => True))))))
set_option maxRecDepth 20000 in
theorem ctX7_day {l : Launch} {G : GM} {K : Nat → Option va_E} {h : List va_E} {m : Md} (hm : HM G K h m)  (hs : sX7_day m ) : Ct l G mX7_day 4 0 0 [.ref (gz G + 221)] h (fun v h1 => ∃ r, (fX7_day m ) = r ∧ v = some (.int r.1) ∧ HM G K h1 r.2) := by
  show Tr l G mX7_day 4 0 0 0 [(0, .ref (gz G + 221))] [] h _
  unfold sX7_day at hs
  refine am_aload_n dX7_day_0 0 rfl ?_
  obtain ⟨i1, hs⟩ := hs
  refine am_callV (As := []) (rest := []) dX7_day_1 kMX7_209 rfl (hmc221 (m := m) hm) rfl rfl (Nat.le_of_ble_eq_true rfl) (d2 := 0) (by decide) (k2 := 0) (Nat.zero_le _) (u2 := 0) (Nat.zero_le _) (Nat.le_of_ble_eq_true rfl) (ctX7_remember (m := m) hm  i1) (fun v2 h3 q4 => ?_)
  obtain ⟨r5, e6, rfl, w7⟩ := q4
  have hs := bnd_p e6 hs
  refine am_aload_n dX7_day_4 0 rfl ?_
  obtain ⟨i8, hs⟩ := hs
  refine am_callV (As := []) (rest := []) dX7_day_5 kMX7_184 rfl (hmc221 (m := r5) w7) rfl rfl (Nat.le_of_ble_eq_true rfl) (d2 := 3) (by decide) (k2 := 0) (Nat.zero_le _) (u2 := 0) (Nat.zero_le _) (Nat.le_of_ble_eq_true rfl) (ctX7_pass (m := r5) w7  i8) (fun v9 h10 q11 => ?_)
  obtain ⟨r12, e13, rfl, w14⟩ := q11
  have hs := bnd_p e13 hs
  exact am_ireturn dX7_day_8 rfl rfl ⟨_, bnd_eq e6 (bnd_eq e13 (rfl)), rfl, w14⟩

theorem dX7_dye_0 : decode cX7_dye 0 = .ok (.aload_n 0, 1) := by decide +kernel
theorem dX7_dye_1 : decode cX7_dye 1 = .ok (.iload_n 1, 1) := by decide +kernel
theorem dX7_dye_2 : decode cX7_dye 2 = .ok (.invokevirtual 150, 3) := by decide +kernel
theorem dX7_dye_5 : decode cX7_dye 5 = .ok (.ifCond .eq 15, 3) := by decide +kernel
theorem dX7_dye_8 : decode cX7_dye 8 = .ok (.iload_n 2, 1) := by decide +kernel
theorem dX7_dye_9 : decode cX7_dye 9 = .ok (.i2l, 1) := by decide +kernel
theorem dX7_dye_10 : decode cX7_dye 10 = .ok (.lconst 0, 1) := by decide +kernel
theorem dX7_dye_11 : decode cX7_dye 11 = .ok (.ldc2_w 201, 3) := by decide +kernel
theorem dX7_dye_14 : decode cX7_dye 14 = .ok (.invokestatic 56, 3) := by decide +kernel
theorem dX7_dye_17 : decode cX7_dye 17 = .ok (.ifCond .ne 6, 3) := by decide +kernel
theorem dX7_dye_20 : decode cX7_dye 20 = .ok (.bipush (-2), 2) := by decide +kernel
theorem dX7_dye_22 : decode cX7_dye 22 = .ok (.ireturn, 1) := by decide +kernel
theorem dX7_dye_23 : decode cX7_dye 23 = .ok (.aload_n 0, 1) := by decide +kernel
theorem dX7_dye_24 : decode cX7_dye 24 = .ok (.iload_n 1, 1) := by decide +kernel
theorem dX7_dye_25 : decode cX7_dye 25 = .ok (.iconst 3, 1) := by decide +kernel
theorem dX7_dye_26 : decode cX7_dye 26 = .ok (.invokevirtual 89, 3) := by decide +kernel
theorem dX7_dye_29 : decode cX7_dye 29 = .ok (.ifCond .eq 6, 3) := by decide +kernel
theorem dX7_dye_32 : decode cX7_dye 32 = .ok (.bipush (-6), 2) := by decide +kernel
theorem dX7_dye_34 : decode cX7_dye 34 = .ok (.ireturn, 1) := by decide +kernel
theorem dX7_dye_35 : decode cX7_dye 35 = .ok (.aload_n 0, 1) := by decide +kernel
theorem dX7_dye_36 : decode cX7_dye 36 = .ok (.iload_n 1, 1) := by decide +kernel
theorem dX7_dye_37 : decode cX7_dye 37 = .ok (.iconst 4, 1) := by decide +kernel
theorem dX7_dye_38 : decode cX7_dye 38 = .ok (.invokevirtual 60, 3) := by decide +kernel
theorem dX7_dye_41 : decode cX7_dye 41 = .ok (.istore_n 3, 1) := by decide +kernel
theorem dX7_dye_42 : decode cX7_dye 42 = .ok (.iload_n 3, 1) := by decide +kernel
theorem dX7_dye_43 : decode cX7_dye 43 = .ok (.iload_n 2, 1) := by decide +kernel
theorem dX7_dye_44 : decode cX7_dye 44 = .ok (.if_icmp .eq 7, 3) := by decide +kernel
theorem dX7_dye_47 : decode cX7_dye 47 = .ok (.aload_n 0, 1) := by decide +kernel
theorem dX7_dye_48 : decode cX7_dye 48 = .ok (.invokevirtual 209, 3) := by decide +kernel
theorem dX7_dye_51 : decode cX7_dye 51 = .ok (.aload_n 0, 1) := by decide +kernel
theorem dX7_dye_52 : decode cX7_dye 52 = .ok (.getfield 13, 3) := by decide +kernel
theorem dX7_dye_55 : decode cX7_dye 55 = .ok (.iload_n 1, 1) := by decide +kernel
theorem dX7_dye_56 : decode cX7_dye 56 = .ok (.iconst 4, 1) := by decide +kernel
theorem dX7_dye_57 : decode cX7_dye 57 = .ok (.invokestatic 52, 3) := by decide +kernel
theorem dX7_dye_60 : decode cX7_dye 60 = .ok (.iload_n 2, 1) := by decide +kernel
theorem dX7_dye_61 : decode cX7_dye 61 = .ok (.iastore, 1) := by decide +kernel
theorem dX7_dye_62 : decode cX7_dye 62 = .ok (.iload_n 3, 1) := by decide +kernel
theorem dX7_dye_63 : decode cX7_dye 63 = .ok (.ireturn, 1) := by decide +kernel
def fX7_dye (m : Md) (z1 : Int32) (z2 : Int32) : Int32 × Md := (if (fX7_isPiece m z1) = 0 then ((-2), m) else (if (fX7_in (z2.toInt64) 0 255) = 0 then ((-2), m) else (if (fX7_isIn m z1 3) = 0 then (if (fX7_field m z1 4) = z2 then (bnd (mA m 0 (upd (m.2.1 0) (fX7_at z1 4).toNatClampNeg z2)) (fun r25 => ((fX7_field m z1 4), r25))) else (bnd (fX7_remember m ) (fun r32 => (bnd (mA r32 0 (upd (r32.2.1 0) (fX7_at z1 4).toNatClampNeg z2)) (fun r40 => ((fX7_field m z1 4), r40)))))) else ((-6), m))))
def sX7_dye (m : Md) (z1 : Int32) (z2 : Int32) : Prop := ((sX7_isPiece m z1) ∧ (((fX7_isPiece m z1) = 0 → True) ∧ (¬ (fX7_isPiece m z1) = 0 → (((fX7_in (z2.toInt64) 0 255) = 0 → True) ∧ (¬ (fX7_in (z2.toInt64) 0 255) = 0 → ((sX7_isIn m z1 3) ∧ (((fX7_isIn m z1 3) = 0 → ((sX7_field m z1 4) ∧ (((fX7_field m z1 4) = z2 → (vp_in (fX7_at z1 4) 146 ∧ (bnd (mA m 0 (upd (m.2.1 0) (fX7_at z1 4).toNatClampNeg z2)) (fun r25 => True)))) ∧ (¬ (fX7_field m z1 4) = z2 → ((sX7_remember m ) ∧ (bnd (fX7_remember m ) (fun r32 => (vp_in (fX7_at z1 4) 146 ∧ (bnd (mA r32 0 (upd (r32.2.1 0) (fX7_at z1 4).toNatClampNeg z2)) (fun r40 => True)))))))))) ∧ (¬ (fX7_isIn m z1 3) = 0 → True))))))))
set_option maxRecDepth 20000 in
theorem ctX7_dye {l : Launch} {G : GM} {K : Nat → Option va_E} {h : List va_E} {m : Md} (hm : HM G K h m) (z1 : Int32) (z2 : Int32) (hs : sX7_dye m z1 z2) : Ct l G mX7_dye 3 0 0 [.ref (gz G + 221), .int z1, .int z2] h (fun v h1 => ∃ r, (fX7_dye m z1 z2) = r ∧ v = some (.int r.1) ∧ HM G K h1 r.2) := by
  show Tr l G mX7_dye 3 0 0 0 [(0, .ref (gz G + 221)), (1, .int z1), (2, .int z2)] [] h _
  unfold sX7_dye at hs
  refine am_aload_n dX7_dye_0 0 rfl ?_
  refine am_iload_n dX7_dye_1 1 rfl ?_
  obtain ⟨i1, hs⟩ := hs
  refine am_callV (As := [.int z1]) (rest := []) dX7_dye_2 kMX7_150 rfl (hmc221 (m := m) hm) rfl rfl (Nat.le_of_ble_eq_true rfl) (d2 := 1) (by decide) (k2 := 0) (Nat.zero_le _) (u2 := 0) (Nat.zero_le _) (Nat.le_of_ble_eq_true rfl) (ctX7_isPiece (m := m) hm z1 i1) (fun v2 h3 q4 => ?_)
  obtain ⟨rfl, rfl⟩ := q4
  refine am_if_eq dX7_dye_5 (by decide : ((5 : Nat) : Int) + (15) = ((20 : Nat) : Int)) (fun c5 => ?_) (fun c5 => ?_)
  · have hs := hs.1 c5
    refine am_bipush (v := (-2)) dX7_dye_20 (by decide) ?_
    exact am_ireturn dX7_dye_22 rfl rfl ⟨_, ifp c5 (rfl), rfl, hm⟩
  · have hs := hs.2 c5
    refine am_iload_n dX7_dye_8 2 rfl ?_
    refine am_i2l (v := z2.toInt64) dX7_dye_9 rfl ?_
    refine am_lconst (v := 0) dX7_dye_10 (by decide) ?_
    refine am_ldc2 (v := 255) dX7_dye_11 kKX7_201 ?_
    refine am_callS (As := [.long (z2.toInt64), .long 0, .long 255]) (rest := []) dX7_dye_14 kMX7_56 rfl  rfl (Nat.le_of_ble_eq_true rfl) (d2 := 0) (by decide) (k2 := 0) (Nat.zero_le _) (u2 := 0) (Nat.zero_le _) (Nat.le_of_ble_eq_true rfl) (ctX7_in  (z2.toInt64) 0 255 ) (fun v6 h7 q8 => ?_)
    obtain ⟨rfl, rfl⟩ := q8
    refine am_if_ne dX7_dye_17 (by decide : ((17 : Nat) : Int) + (6) = ((23 : Nat) : Int)) (fun c9 => ?_) (fun c9 => ?_)
    · have hs := hs.2 c9
      refine am_aload_n dX7_dye_23 0 rfl ?_
      refine am_iload_n dX7_dye_24 1 rfl ?_
      refine am_iconst (v := 3) dX7_dye_25 (by decide) ?_
      obtain ⟨i10, hs⟩ := hs
      refine am_callV (As := [.int z1, .int 3]) (rest := []) dX7_dye_26 kMX7_89 rfl (hmc221 (m := m) hm) rfl rfl (Nat.le_of_ble_eq_true rfl) (d2 := 2) (by decide) (k2 := 0) (Nat.zero_le _) (u2 := 0) (Nat.zero_le _) (Nat.le_of_ble_eq_true rfl) (ctX7_isIn (m := m) hm z1 3 i10) (fun v11 h12 q13 => ?_)
      obtain ⟨rfl, rfl⟩ := q13
      refine am_if_eq dX7_dye_29 (by decide : ((29 : Nat) : Int) + (6) = ((35 : Nat) : Int)) (fun c14 => ?_) (fun c14 => ?_)
      · have hs := hs.1 c14
        refine am_aload_n dX7_dye_35 0 rfl ?_
        refine am_iload_n dX7_dye_36 1 rfl ?_
        refine am_iconst (v := 4) dX7_dye_37 (by decide) ?_
        obtain ⟨i15, hs⟩ := hs
        refine am_callV (As := [.int z1, .int 4]) (rest := []) dX7_dye_38 kMX7_60 rfl (hmc221 (m := m) hm) rfl rfl (Nat.le_of_ble_eq_true rfl) (d2 := 1) (by decide) (k2 := 0) (Nat.zero_le _) (u2 := 0) (Nat.zero_le _) (Nat.le_of_ble_eq_true rfl) (ctX7_field (m := m) hm z1 4 i15) (fun v16 h17 q18 => ?_)
        obtain ⟨rfl, rfl⟩ := q18
        refine am_istore_n dX7_dye_41 (by decide) (lv' := [(3, .int (fX7_field m z1 4)), (0, .ref (gz G + 221)), (1, .int z1), (2, .int z2)]) rfl ?_
        refine am_iload_n dX7_dye_42 0 rfl ?_
        refine am_iload_n dX7_dye_43 3 rfl ?_
        refine am_icmp_eq dX7_dye_44 (by decide : ((44 : Nat) : Int) + (7) = ((51 : Nat) : Int)) (fun c19 => ?_) (fun c19 => ?_)
        · have hs := hs.1 c19
          refine am_aload_n dX7_dye_51 1 rfl ?_
          refine am_get (v := .ref (gz G + 222)) dX7_dye_52 kGX7_13 (hmc221 (m := m) hm) rfl ?_
          refine am_iload_n dX7_dye_55 2 rfl ?_
          refine am_iconst (v := 4) dX7_dye_56 (by decide) ?_
          refine am_callS (As := [.int z1, .int 4]) (rest := [.ref (gz G + 222)]) dX7_dye_57 kMX7_52 rfl  rfl (Nat.le_of_ble_eq_true rfl) (d2 := 0) (by decide) (k2 := 0) (Nat.zero_le _) (u2 := 0) (Nat.zero_le _) (Nat.le_of_ble_eq_true rfl) (ctX7_at  z1 4 ) (fun v20 h21 q22 => ?_)
          obtain ⟨rfl, rfl⟩ := q22
          refine am_iload_n dX7_dye_60 3 rfl ?_
          obtain ⟨i23, hs⟩ := hs
          refine am_iast (f := (m.2.1 0)) dX7_dye_61 (hmc222 (m := m) hm) i23 ?_
          have w24 := hmA0 hm (upd (m.2.1 0) (fX7_at z1 4).toNatClampNeg z2)
          obtain ⟨r25, e26⟩ : ∃ x, (mA m 0 (upd (m.2.1 0) (fX7_at z1 4).toNatClampNeg z2)) = x := ⟨_, rfl⟩
          have w27 := hm_eq e26 w24
          have hs := bnd_p e26 hs
          refine am_iload_n dX7_dye_62 0 rfl ?_
          exact am_ireturn dX7_dye_63 rfl rfl ⟨_, ifn c5 (ifn c9 (ifp c14 (ifp c19 (bnd_eq e26 (rfl))))), rfl, w27⟩
        · have hs := hs.2 c19
          refine am_aload_n dX7_dye_47 1 rfl ?_
          obtain ⟨i28, hs⟩ := hs
          refine am_callV (As := []) (rest := []) dX7_dye_48 kMX7_209 rfl (hmc221 (m := m) hm) rfl rfl (Nat.le_of_ble_eq_true rfl) (d2 := 0) (by decide) (k2 := 0) (Nat.zero_le _) (u2 := 0) (Nat.zero_le _) (Nat.le_of_ble_eq_true rfl) (ctX7_remember (m := m) hm  i28) (fun v29 h30 q31 => ?_)
          obtain ⟨r32, e33, rfl, w34⟩ := q31
          have hs := bnd_p e33 hs
          refine am_aload_n dX7_dye_51 1 rfl ?_
          refine am_get (v := .ref (gz G + 222)) dX7_dye_52 kGX7_13 (hmc221 (m := r32) w34) rfl ?_
          refine am_iload_n dX7_dye_55 2 rfl ?_
          refine am_iconst (v := 4) dX7_dye_56 (by decide) ?_
          refine am_callS (As := [.int z1, .int 4]) (rest := [.ref (gz G + 222)]) dX7_dye_57 kMX7_52 rfl  rfl (Nat.le_of_ble_eq_true rfl) (d2 := 0) (by decide) (k2 := 0) (Nat.zero_le _) (u2 := 0) (Nat.zero_le _) (Nat.le_of_ble_eq_true rfl) (ctX7_at  z1 4 ) (fun v35 h36 q37 => ?_)
          obtain ⟨rfl, rfl⟩ := q37
          refine am_iload_n dX7_dye_60 3 rfl ?_
          obtain ⟨i38, hs⟩ := hs
          refine am_iast (f := (r32.2.1 0)) dX7_dye_61 (hmc222 (m := r32) w34) i38 ?_
          have w39 := hmA0 w34 (upd (r32.2.1 0) (fX7_at z1 4).toNatClampNeg z2)
          obtain ⟨r40, e41⟩ : ∃ x, (mA r32 0 (upd (r32.2.1 0) (fX7_at z1 4).toNatClampNeg z2)) = x := ⟨_, rfl⟩
          have w42 := hm_eq e41 w39
          have hs := bnd_p e41 hs
          refine am_iload_n dX7_dye_62 0 rfl ?_
          exact am_ireturn dX7_dye_63 rfl rfl ⟨_, ifn c5 (ifn c9 (ifp c14 (ifn c19 (bnd_eq e33 (bnd_eq e41 (rfl)))))), rfl, w42⟩
      · have hs := hs.2 c14
        refine am_bipush (v := (-6)) dX7_dye_32 (by decide) ?_
        exact am_ireturn dX7_dye_34 rfl rfl ⟨_, ifn c5 (ifn c9 (ifn c14 (rfl))), rfl, hm⟩
    · have hs := hs.1 c9
      refine am_bipush (v := (-2)) dX7_dye_20 (by decide) ?_
      exact am_ireturn dX7_dye_22 rfl rfl ⟨_, ifn c5 (ifp c9 (rfl)), rfl, hm⟩

theorem dX7_setTolerance_0 : decode cX7_setTolerance 0 = .ok (.iload_n 1, 1) := by decide +kernel
theorem dX7_setTolerance_1 : decode cX7_setTolerance 1 = .ok (.i2l, 1) := by decide +kernel
theorem dX7_setTolerance_2 : decode cX7_setTolerance 2 = .ok (.lconst 0, 1) := by decide +kernel
theorem dX7_setTolerance_3 : decode cX7_setTolerance 3 = .ok (.ldc2_w 215, 3) := by decide +kernel
theorem dX7_setTolerance_6 : decode cX7_setTolerance 6 = .ok (.invokestatic 56, 3) := by decide +kernel
theorem dX7_setTolerance_9 : decode cX7_setTolerance 9 = .ok (.ifCond .eq 15, 3) := by decide +kernel
theorem dX7_setTolerance_12 : decode cX7_setTolerance 12 = .ok (.iload_n 2, 1) := by decide +kernel
theorem dX7_setTolerance_13 : decode cX7_setTolerance 13 = .ok (.i2l, 1) := by decide +kernel
theorem dX7_setTolerance_14 : decode cX7_setTolerance 14 = .ok (.lconst 0, 1) := by decide +kernel
theorem dX7_setTolerance_15 : decode cX7_setTolerance 15 = .ok (.ldc2_w 201, 3) := by decide +kernel
theorem dX7_setTolerance_18 : decode cX7_setTolerance 18 = .ok (.invokestatic 56, 3) := by decide +kernel
theorem dX7_setTolerance_21 : decode cX7_setTolerance 21 = .ok (.ifCond .ne 6, 3) := by decide +kernel
theorem dX7_setTolerance_24 : decode cX7_setTolerance 24 = .ok (.bipush (-2), 2) := by decide +kernel
theorem dX7_setTolerance_26 : decode cX7_setTolerance 26 = .ok (.ireturn, 1) := by decide +kernel
theorem dX7_setTolerance_27 : decode cX7_setTolerance 27 = .ok (.aload_n 0, 1) := by decide +kernel
theorem dX7_setTolerance_28 : decode cX7_setTolerance 28 = .ok (.getfield 13, 3) := by decide +kernel
theorem dX7_setTolerance_31 : decode cX7_setTolerance 31 = .ok (.iconst 0, 1) := by decide +kernel
theorem dX7_setTolerance_32 : decode cX7_setTolerance 32 = .ok (.iaload, 1) := by decide +kernel
theorem dX7_setTolerance_33 : decode cX7_setTolerance 33 = .ok (.istore_n 3, 1) := by decide +kernel
theorem dX7_setTolerance_34 : decode cX7_setTolerance 34 = .ok (.iload_n 3, 1) := by decide +kernel
theorem dX7_setTolerance_35 : decode cX7_setTolerance 35 = .ok (.iload_n 1, 1) := by decide +kernel
theorem dX7_setTolerance_36 : decode cX7_setTolerance 36 = .ok (.if_icmp .ne 13, 3) := by decide +kernel
theorem dX7_setTolerance_39 : decode cX7_setTolerance 39 = .ok (.aload_n 0, 1) := by decide +kernel
theorem dX7_setTolerance_40 : decode cX7_setTolerance 40 = .ok (.getfield 13, 3) := by decide +kernel
theorem dX7_setTolerance_43 : decode cX7_setTolerance 43 = .ok (.iconst 1, 1) := by decide +kernel
theorem dX7_setTolerance_44 : decode cX7_setTolerance 44 = .ok (.iaload, 1) := by decide +kernel
theorem dX7_setTolerance_45 : decode cX7_setTolerance 45 = .ok (.iload_n 2, 1) := by decide +kernel
theorem dX7_setTolerance_46 : decode cX7_setTolerance 46 = .ok (.if_icmp .eq 7, 3) := by decide +kernel
theorem dX7_setTolerance_49 : decode cX7_setTolerance 49 = .ok (.aload_n 0, 1) := by decide +kernel
theorem dX7_setTolerance_50 : decode cX7_setTolerance 50 = .ok (.invokevirtual 209, 3) := by decide +kernel
theorem dX7_setTolerance_53 : decode cX7_setTolerance 53 = .ok (.aload_n 0, 1) := by decide +kernel
theorem dX7_setTolerance_54 : decode cX7_setTolerance 54 = .ok (.getfield 13, 3) := by decide +kernel
theorem dX7_setTolerance_57 : decode cX7_setTolerance 57 = .ok (.iconst 0, 1) := by decide +kernel
theorem dX7_setTolerance_58 : decode cX7_setTolerance 58 = .ok (.iload_n 1, 1) := by decide +kernel
theorem dX7_setTolerance_59 : decode cX7_setTolerance 59 = .ok (.iastore, 1) := by decide +kernel
theorem dX7_setTolerance_60 : decode cX7_setTolerance 60 = .ok (.aload_n 0, 1) := by decide +kernel
theorem dX7_setTolerance_61 : decode cX7_setTolerance 61 = .ok (.getfield 13, 3) := by decide +kernel
theorem dX7_setTolerance_64 : decode cX7_setTolerance 64 = .ok (.iconst 1, 1) := by decide +kernel
theorem dX7_setTolerance_65 : decode cX7_setTolerance 65 = .ok (.iload_n 2, 1) := by decide +kernel
theorem dX7_setTolerance_66 : decode cX7_setTolerance 66 = .ok (.iastore, 1) := by decide +kernel
theorem dX7_setTolerance_67 : decode cX7_setTolerance 67 = .ok (.iload_n 3, 1) := by decide +kernel
theorem dX7_setTolerance_68 : decode cX7_setTolerance 68 = .ok (.ireturn, 1) := by decide +kernel
def fX7_setTolerance (m : Md) (z1 : Int32) (z2 : Int32) : Int32 × Md := (if (fX7_in (z1.toInt64) 0 500) = 0 then ((-2), m) else (if (fX7_in (z2.toInt64) 0 255) = 0 then ((-2), m) else (if ((m.2.1 0) 0) = z1 then (if ((m.2.1 0) 1) = z2 then (bnd (mA m 0 (upd (m.2.1 0) 0 z1)) (fun r27 => (bnd (mA r27 0 (upd (r27.2.1 0) 1 z2)) (fun r31 => (((m.2.1 0) 0), r31))))) else (bnd (fX7_remember m ) (fun r38 => (bnd (mA r38 0 (upd (r38.2.1 0) 0 z1)) (fun r42 => (bnd (mA r42 0 (upd (r42.2.1 0) 1 z2)) (fun r46 => (((m.2.1 0) 0), r46)))))))) else (bnd (fX7_remember m ) (fun r14 => (bnd (mA r14 0 (upd (r14.2.1 0) 0 z1)) (fun r18 => (bnd (mA r18 0 (upd (r18.2.1 0) 1 z2)) (fun r22 => (((m.2.1 0) 0), r22))))))))))
def sX7_setTolerance (m : Md) (z1 : Int32) (z2 : Int32) : Prop := (((fX7_in (z1.toInt64) 0 500) = 0 → True) ∧ (¬ (fX7_in (z1.toInt64) 0 500) = 0 → (((fX7_in (z2.toInt64) 0 255) = 0 → True) ∧ (¬ (fX7_in (z2.toInt64) 0 255) = 0 → ((((m.2.1 0) 0) = z1 → ((((m.2.1 0) 1) = z2 → (bnd (mA m 0 (upd (m.2.1 0) 0 z1)) (fun r27 => (bnd (mA r27 0 (upd (r27.2.1 0) 1 z2)) (fun r31 => True))))) ∧ (¬ ((m.2.1 0) 1) = z2 → ((sX7_remember m ) ∧ (bnd (fX7_remember m ) (fun r38 => (bnd (mA r38 0 (upd (r38.2.1 0) 0 z1)) (fun r42 => (bnd (mA r42 0 (upd (r42.2.1 0) 1 z2)) (fun r46 => True)))))))))) ∧ (¬ ((m.2.1 0) 0) = z1 → ((sX7_remember m ) ∧ (bnd (fX7_remember m ) (fun r14 => (bnd (mA r14 0 (upd (r14.2.1 0) 0 z1)) (fun r18 => (bnd (mA r18 0 (upd (r18.2.1 0) 1 z2)) (fun r22 => True)))))))))))))
set_option maxRecDepth 20000 in
theorem ctX7_setTolerance {l : Launch} {G : GM} {K : Nat → Option va_E} {h : List va_E} {m : Md} (hm : HM G K h m) (z1 : Int32) (z2 : Int32) (hs : sX7_setTolerance m z1 z2) : Ct l G mX7_setTolerance 1 0 0 [.ref (gz G + 221), .int z1, .int z2] h (fun v h1 => ∃ r, (fX7_setTolerance m z1 z2) = r ∧ v = some (.int r.1) ∧ HM G K h1 r.2) := by
  show Tr l G mX7_setTolerance 1 0 0 0 [(0, .ref (gz G + 221)), (1, .int z1), (2, .int z2)] [] h _
  unfold sX7_setTolerance at hs
  refine am_iload_n dX7_setTolerance_0 1 rfl ?_
  refine am_i2l (v := z1.toInt64) dX7_setTolerance_1 rfl ?_
  refine am_lconst (v := 0) dX7_setTolerance_2 (by decide) ?_
  refine am_ldc2 (v := 500) dX7_setTolerance_3 kKX7_215 ?_
  refine am_callS (As := [.long (z1.toInt64), .long 0, .long 500]) (rest := []) dX7_setTolerance_6 kMX7_56 rfl  rfl (Nat.le_of_ble_eq_true rfl) (d2 := 0) (by decide) (k2 := 0) (Nat.zero_le _) (u2 := 0) (Nat.zero_le _) (Nat.le_of_ble_eq_true rfl) (ctX7_in  (z1.toInt64) 0 500 ) (fun v1 h2 q3 => ?_)
  obtain ⟨rfl, rfl⟩ := q3
  refine am_if_eq dX7_setTolerance_9 (by decide : ((9 : Nat) : Int) + (15) = ((24 : Nat) : Int)) (fun c4 => ?_) (fun c4 => ?_)
  · have hs := hs.1 c4
    refine am_bipush (v := (-2)) dX7_setTolerance_24 (by decide) ?_
    exact am_ireturn dX7_setTolerance_26 rfl rfl ⟨_, ifp c4 (rfl), rfl, hm⟩
  · have hs := hs.2 c4
    refine am_iload_n dX7_setTolerance_12 2 rfl ?_
    refine am_i2l (v := z2.toInt64) dX7_setTolerance_13 rfl ?_
    refine am_lconst (v := 0) dX7_setTolerance_14 (by decide) ?_
    refine am_ldc2 (v := 255) dX7_setTolerance_15 kKX7_201 ?_
    refine am_callS (As := [.long (z2.toInt64), .long 0, .long 255]) (rest := []) dX7_setTolerance_18 kMX7_56 rfl  rfl (Nat.le_of_ble_eq_true rfl) (d2 := 0) (by decide) (k2 := 0) (Nat.zero_le _) (u2 := 0) (Nat.zero_le _) (Nat.le_of_ble_eq_true rfl) (ctX7_in  (z2.toInt64) 0 255 ) (fun v5 h6 q7 => ?_)
    obtain ⟨rfl, rfl⟩ := q7
    refine am_if_ne dX7_setTolerance_21 (by decide : ((21 : Nat) : Int) + (6) = ((27 : Nat) : Int)) (fun c8 => ?_) (fun c8 => ?_)
    · have hs := hs.2 c8
      refine am_aload_n dX7_setTolerance_27 0 rfl ?_
      refine am_get (v := .ref (gz G + 222)) dX7_setTolerance_28 kGX7_13 (hmc221 (m := m) hm) rfl ?_
      refine am_iconst (v := 0) dX7_setTolerance_31 (by decide) ?_
      refine am_iald (f := (m.2.1 0)) dX7_setTolerance_32 (hmc222 (m := m) hm) (vp_lit (by decide)) ?_
      rw [tl0]
      refine am_istore_n dX7_setTolerance_33 (by decide) (lv' := [(3, .int ((m.2.1 0) 0)), (0, .ref (gz G + 221)), (1, .int z1), (2, .int z2)]) rfl ?_
      refine am_iload_n dX7_setTolerance_34 0 rfl ?_
      refine am_iload_n dX7_setTolerance_35 2 rfl ?_
      refine am_icmp_ne dX7_setTolerance_36 (by decide : ((36 : Nat) : Int) + (13) = ((49 : Nat) : Int)) (fun c9 => ?_) (fun c9 => ?_)
      · have hs := hs.2 c9
        refine am_aload_n dX7_setTolerance_49 1 rfl ?_
        obtain ⟨i10, hs⟩ := hs
        refine am_callV (As := []) (rest := []) dX7_setTolerance_50 kMX7_209 rfl (hmc221 (m := m) hm) rfl rfl (Nat.le_of_ble_eq_true rfl) (d2 := 0) (by decide) (k2 := 0) (Nat.zero_le _) (u2 := 0) (Nat.zero_le _) (Nat.le_of_ble_eq_true rfl) (ctX7_remember (m := m) hm  i10) (fun v11 h12 q13 => ?_)
        obtain ⟨r14, e15, rfl, w16⟩ := q13
        have hs := bnd_p e15 hs
        refine am_aload_n dX7_setTolerance_53 1 rfl ?_
        refine am_get (v := .ref (gz G + 222)) dX7_setTolerance_54 kGX7_13 (hmc221 (m := r14) w16) rfl ?_
        refine am_iconst (v := 0) dX7_setTolerance_57 (by decide) ?_
        refine am_iload_n dX7_setTolerance_58 2 rfl ?_
        refine am_iast (f := (r14.2.1 0)) dX7_setTolerance_59 (hmc222 (m := r14) w16) (vp_lit (by decide)) ?_
        rw [tl0]
        have w17 := hmA0 w16 (upd (r14.2.1 0) 0 z1)
        obtain ⟨r18, e19⟩ : ∃ x, (mA r14 0 (upd (r14.2.1 0) 0 z1)) = x := ⟨_, rfl⟩
        have w20 := hm_eq e19 w17
        have hs := bnd_p e19 hs
        refine am_aload_n dX7_setTolerance_60 1 rfl ?_
        refine am_get (v := .ref (gz G + 222)) dX7_setTolerance_61 kGX7_13 (hmc221 (m := r18) w20) rfl ?_
        refine am_iconst (v := 1) dX7_setTolerance_64 (by decide) ?_
        refine am_iload_n dX7_setTolerance_65 3 rfl ?_
        refine am_iast (f := (r18.2.1 0)) dX7_setTolerance_66 (hmc222 (m := r18) w20) (vp_lit (by decide)) ?_
        rw [tl1]
        have w21 := hmA0 w20 (upd (r18.2.1 0) 1 z2)
        obtain ⟨r22, e23⟩ : ∃ x, (mA r18 0 (upd (r18.2.1 0) 1 z2)) = x := ⟨_, rfl⟩
        have w24 := hm_eq e23 w21
        have hs := bnd_p e23 hs
        refine am_iload_n dX7_setTolerance_67 0 rfl ?_
        exact am_ireturn dX7_setTolerance_68 rfl rfl ⟨_, ifn c4 (ifn c8 (ifn c9 (bnd_eq e15 (bnd_eq e19 (bnd_eq e23 (rfl)))))), rfl, w24⟩
      · have hs := hs.1 c9
        refine am_aload_n dX7_setTolerance_39 1 rfl ?_
        refine am_get (v := .ref (gz G + 222)) dX7_setTolerance_40 kGX7_13 (hmc221 (m := m) hm) rfl ?_
        refine am_iconst (v := 1) dX7_setTolerance_43 (by decide) ?_
        refine am_iald (f := (m.2.1 0)) dX7_setTolerance_44 (hmc222 (m := m) hm) (vp_lit (by decide)) ?_
        rw [tl1]
        refine am_iload_n dX7_setTolerance_45 3 rfl ?_
        refine am_icmp_eq dX7_setTolerance_46 (by decide : ((46 : Nat) : Int) + (7) = ((53 : Nat) : Int)) (fun c25 => ?_) (fun c25 => ?_)
        · have hs := hs.1 c25
          refine am_aload_n dX7_setTolerance_53 1 rfl ?_
          refine am_get (v := .ref (gz G + 222)) dX7_setTolerance_54 kGX7_13 (hmc221 (m := m) hm) rfl ?_
          refine am_iconst (v := 0) dX7_setTolerance_57 (by decide) ?_
          refine am_iload_n dX7_setTolerance_58 2 rfl ?_
          refine am_iast (f := (m.2.1 0)) dX7_setTolerance_59 (hmc222 (m := m) hm) (vp_lit (by decide)) ?_
          rw [tl0]
          have w26 := hmA0 hm (upd (m.2.1 0) 0 z1)
          obtain ⟨r27, e28⟩ : ∃ x, (mA m 0 (upd (m.2.1 0) 0 z1)) = x := ⟨_, rfl⟩
          have w29 := hm_eq e28 w26
          have hs := bnd_p e28 hs
          refine am_aload_n dX7_setTolerance_60 1 rfl ?_
          refine am_get (v := .ref (gz G + 222)) dX7_setTolerance_61 kGX7_13 (hmc221 (m := r27) w29) rfl ?_
          refine am_iconst (v := 1) dX7_setTolerance_64 (by decide) ?_
          refine am_iload_n dX7_setTolerance_65 3 rfl ?_
          refine am_iast (f := (r27.2.1 0)) dX7_setTolerance_66 (hmc222 (m := r27) w29) (vp_lit (by decide)) ?_
          rw [tl1]
          have w30 := hmA0 w29 (upd (r27.2.1 0) 1 z2)
          obtain ⟨r31, e32⟩ : ∃ x, (mA r27 0 (upd (r27.2.1 0) 1 z2)) = x := ⟨_, rfl⟩
          have w33 := hm_eq e32 w30
          have hs := bnd_p e32 hs
          refine am_iload_n dX7_setTolerance_67 0 rfl ?_
          exact am_ireturn dX7_setTolerance_68 rfl rfl ⟨_, ifn c4 (ifn c8 (ifp c9 (ifp c25 (bnd_eq e28 (bnd_eq e32 (rfl)))))), rfl, w33⟩
        · have hs := hs.2 c25
          refine am_aload_n dX7_setTolerance_49 1 rfl ?_
          obtain ⟨i34, hs⟩ := hs
          refine am_callV (As := []) (rest := []) dX7_setTolerance_50 kMX7_209 rfl (hmc221 (m := m) hm) rfl rfl (Nat.le_of_ble_eq_true rfl) (d2 := 0) (by decide) (k2 := 0) (Nat.zero_le _) (u2 := 0) (Nat.zero_le _) (Nat.le_of_ble_eq_true rfl) (ctX7_remember (m := m) hm  i34) (fun v35 h36 q37 => ?_)
          obtain ⟨r38, e39, rfl, w40⟩ := q37
          have hs := bnd_p e39 hs
          refine am_aload_n dX7_setTolerance_53 1 rfl ?_
          refine am_get (v := .ref (gz G + 222)) dX7_setTolerance_54 kGX7_13 (hmc221 (m := r38) w40) rfl ?_
          refine am_iconst (v := 0) dX7_setTolerance_57 (by decide) ?_
          refine am_iload_n dX7_setTolerance_58 2 rfl ?_
          refine am_iast (f := (r38.2.1 0)) dX7_setTolerance_59 (hmc222 (m := r38) w40) (vp_lit (by decide)) ?_
          rw [tl0]
          have w41 := hmA0 w40 (upd (r38.2.1 0) 0 z1)
          obtain ⟨r42, e43⟩ : ∃ x, (mA r38 0 (upd (r38.2.1 0) 0 z1)) = x := ⟨_, rfl⟩
          have w44 := hm_eq e43 w41
          have hs := bnd_p e43 hs
          refine am_aload_n dX7_setTolerance_60 1 rfl ?_
          refine am_get (v := .ref (gz G + 222)) dX7_setTolerance_61 kGX7_13 (hmc221 (m := r42) w44) rfl ?_
          refine am_iconst (v := 1) dX7_setTolerance_64 (by decide) ?_
          refine am_iload_n dX7_setTolerance_65 3 rfl ?_
          refine am_iast (f := (r42.2.1 0)) dX7_setTolerance_66 (hmc222 (m := r42) w44) (vp_lit (by decide)) ?_
          rw [tl1]
          have w45 := hmA0 w44 (upd (r42.2.1 0) 1 z2)
          obtain ⟨r46, e47⟩ : ∃ x, (mA r42 0 (upd (r42.2.1 0) 1 z2)) = x := ⟨_, rfl⟩
          have w48 := hm_eq e47 w45
          have hs := bnd_p e47 hs
          refine am_iload_n dX7_setTolerance_67 0 rfl ?_
          exact am_ireturn dX7_setTolerance_68 rfl rfl ⟨_, ifn c4 (ifn c8 (ifp c9 (ifn c25 (bnd_eq e39 (bnd_eq e43 (bnd_eq e47 (rfl))))))), rfl, w48⟩
    · have hs := hs.1 c8
      refine am_bipush (v := (-2)) dX7_setTolerance_24 (by decide) ?_
      exact am_ireturn dX7_setTolerance_26 rfl rfl ⟨_, ifn c4 (ifp c8 (rfl)), rfl, hm⟩

theorem dX7_setSteam_0 : decode cX7_setSteam 0 = .ok (.iload_n 1, 1) := by decide +kernel
theorem dX7_setSteam_1 : decode cX7_setSteam 1 = .ok (.i2l, 1) := by decide +kernel
theorem dX7_setSteam_2 : decode cX7_setSteam 2 = .ok (.lconst 0, 1) := by decide +kernel
theorem dX7_setSteam_3 : decode cX7_setSteam 3 = .ok (.ldc2_w 217, 3) := by decide +kernel
theorem dX7_setSteam_6 : decode cX7_setSteam 6 = .ok (.invokestatic 56, 3) := by decide +kernel
theorem dX7_setSteam_9 : decode cX7_setSteam 9 = .ok (.ifCond .ne 6, 3) := by decide +kernel
theorem dX7_setSteam_12 : decode cX7_setSteam 12 = .ok (.bipush (-2), 2) := by decide +kernel
theorem dX7_setSteam_14 : decode cX7_setSteam 14 = .ok (.ireturn, 1) := by decide +kernel
theorem dX7_setSteam_15 : decode cX7_setSteam 15 = .ok (.aload_n 0, 1) := by decide +kernel
theorem dX7_setSteam_16 : decode cX7_setSteam 16 = .ok (.getfield 13, 3) := by decide +kernel
theorem dX7_setSteam_19 : decode cX7_setSteam 19 = .ok (.iconst 2, 1) := by decide +kernel
theorem dX7_setSteam_20 : decode cX7_setSteam 20 = .ok (.iaload, 1) := by decide +kernel
theorem dX7_setSteam_21 : decode cX7_setSteam 21 = .ok (.istore_n 2, 1) := by decide +kernel
theorem dX7_setSteam_22 : decode cX7_setSteam 22 = .ok (.iload_n 2, 1) := by decide +kernel
theorem dX7_setSteam_23 : decode cX7_setSteam 23 = .ok (.iload_n 1, 1) := by decide +kernel
theorem dX7_setSteam_24 : decode cX7_setSteam 24 = .ok (.if_icmp .eq 7, 3) := by decide +kernel
theorem dX7_setSteam_27 : decode cX7_setSteam 27 = .ok (.aload_n 0, 1) := by decide +kernel
theorem dX7_setSteam_28 : decode cX7_setSteam 28 = .ok (.invokevirtual 209, 3) := by decide +kernel
theorem dX7_setSteam_31 : decode cX7_setSteam 31 = .ok (.aload_n 0, 1) := by decide +kernel
theorem dX7_setSteam_32 : decode cX7_setSteam 32 = .ok (.getfield 13, 3) := by decide +kernel
theorem dX7_setSteam_35 : decode cX7_setSteam 35 = .ok (.iconst 2, 1) := by decide +kernel
theorem dX7_setSteam_36 : decode cX7_setSteam 36 = .ok (.iload_n 1, 1) := by decide +kernel
theorem dX7_setSteam_37 : decode cX7_setSteam 37 = .ok (.iastore, 1) := by decide +kernel
theorem dX7_setSteam_38 : decode cX7_setSteam 38 = .ok (.iload_n 2, 1) := by decide +kernel
theorem dX7_setSteam_39 : decode cX7_setSteam 39 = .ok (.ireturn, 1) := by decide +kernel
def fX7_setSteam (m : Md) (z1 : Int32) : Int32 × Md := (if (fX7_in (z1.toInt64) 0 100) = 0 then ((-2), m) else (if ((m.2.1 0) 2) = z1 then (bnd (mA m 0 (upd (m.2.1 0) 2 z1)) (fun r7 => (((m.2.1 0) 2), r7))) else (bnd (fX7_remember m ) (fun r14 => (bnd (mA r14 0 (upd (r14.2.1 0) 2 z1)) (fun r18 => (((m.2.1 0) 2), r18)))))))
def sX7_setSteam (m : Md) (z1 : Int32) : Prop := (((fX7_in (z1.toInt64) 0 100) = 0 → True) ∧ (¬ (fX7_in (z1.toInt64) 0 100) = 0 → ((((m.2.1 0) 2) = z1 → (bnd (mA m 0 (upd (m.2.1 0) 2 z1)) (fun r7 => True))) ∧ (¬ ((m.2.1 0) 2) = z1 → ((sX7_remember m ) ∧ (bnd (fX7_remember m ) (fun r14 => (bnd (mA r14 0 (upd (r14.2.1 0) 2 z1)) (fun r18 => True)))))))))
set_option maxRecDepth 20000 in
theorem ctX7_setSteam {l : Launch} {G : GM} {K : Nat → Option va_E} {h : List va_E} {m : Md} (hm : HM G K h m) (z1 : Int32) (hs : sX7_setSteam m z1) : Ct l G mX7_setSteam 1 0 0 [.ref (gz G + 221), .int z1] h (fun v h1 => ∃ r, (fX7_setSteam m z1) = r ∧ v = some (.int r.1) ∧ HM G K h1 r.2) := by
  show Tr l G mX7_setSteam 1 0 0 0 [(0, .ref (gz G + 221)), (1, .int z1)] [] h _
  unfold sX7_setSteam at hs
  refine am_iload_n dX7_setSteam_0 1 rfl ?_
  refine am_i2l (v := z1.toInt64) dX7_setSteam_1 rfl ?_
  refine am_lconst (v := 0) dX7_setSteam_2 (by decide) ?_
  refine am_ldc2 (v := 100) dX7_setSteam_3 kKX7_217 ?_
  refine am_callS (As := [.long (z1.toInt64), .long 0, .long 100]) (rest := []) dX7_setSteam_6 kMX7_56 rfl  rfl (Nat.le_of_ble_eq_true rfl) (d2 := 0) (by decide) (k2 := 0) (Nat.zero_le _) (u2 := 0) (Nat.zero_le _) (Nat.le_of_ble_eq_true rfl) (ctX7_in  (z1.toInt64) 0 100 ) (fun v1 h2 q3 => ?_)
  obtain ⟨rfl, rfl⟩ := q3
  refine am_if_ne dX7_setSteam_9 (by decide : ((9 : Nat) : Int) + (6) = ((15 : Nat) : Int)) (fun c4 => ?_) (fun c4 => ?_)
  · have hs := hs.2 c4
    refine am_aload_n dX7_setSteam_15 0 rfl ?_
    refine am_get (v := .ref (gz G + 222)) dX7_setSteam_16 kGX7_13 (hmc221 (m := m) hm) rfl ?_
    refine am_iconst (v := 2) dX7_setSteam_19 (by decide) ?_
    refine am_iald (f := (m.2.1 0)) dX7_setSteam_20 (hmc222 (m := m) hm) (vp_lit (by decide)) ?_
    rw [tl2]
    refine am_istore_n dX7_setSteam_21 (by decide) (lv' := [(2, .int ((m.2.1 0) 2)), (0, .ref (gz G + 221)), (1, .int z1)]) rfl ?_
    refine am_iload_n dX7_setSteam_22 0 rfl ?_
    refine am_iload_n dX7_setSteam_23 2 rfl ?_
    refine am_icmp_eq dX7_setSteam_24 (by decide : ((24 : Nat) : Int) + (7) = ((31 : Nat) : Int)) (fun c5 => ?_) (fun c5 => ?_)
    · have hs := hs.1 c5
      refine am_aload_n dX7_setSteam_31 1 rfl ?_
      refine am_get (v := .ref (gz G + 222)) dX7_setSteam_32 kGX7_13 (hmc221 (m := m) hm) rfl ?_
      refine am_iconst (v := 2) dX7_setSteam_35 (by decide) ?_
      refine am_iload_n dX7_setSteam_36 2 rfl ?_
      refine am_iast (f := (m.2.1 0)) dX7_setSteam_37 (hmc222 (m := m) hm) (vp_lit (by decide)) ?_
      rw [tl2]
      have w6 := hmA0 hm (upd (m.2.1 0) 2 z1)
      obtain ⟨r7, e8⟩ : ∃ x, (mA m 0 (upd (m.2.1 0) 2 z1)) = x := ⟨_, rfl⟩
      have w9 := hm_eq e8 w6
      have hs := bnd_p e8 hs
      refine am_iload_n dX7_setSteam_38 0 rfl ?_
      exact am_ireturn dX7_setSteam_39 rfl rfl ⟨_, ifn c4 (ifp c5 (bnd_eq e8 (rfl))), rfl, w9⟩
    · have hs := hs.2 c5
      refine am_aload_n dX7_setSteam_27 1 rfl ?_
      obtain ⟨i10, hs⟩ := hs
      refine am_callV (As := []) (rest := []) dX7_setSteam_28 kMX7_209 rfl (hmc221 (m := m) hm) rfl rfl (Nat.le_of_ble_eq_true rfl) (d2 := 0) (by decide) (k2 := 0) (Nat.zero_le _) (u2 := 0) (Nat.zero_le _) (Nat.le_of_ble_eq_true rfl) (ctX7_remember (m := m) hm  i10) (fun v11 h12 q13 => ?_)
      obtain ⟨r14, e15, rfl, w16⟩ := q13
      have hs := bnd_p e15 hs
      refine am_aload_n dX7_setSteam_31 1 rfl ?_
      refine am_get (v := .ref (gz G + 222)) dX7_setSteam_32 kGX7_13 (hmc221 (m := r14) w16) rfl ?_
      refine am_iconst (v := 2) dX7_setSteam_35 (by decide) ?_
      refine am_iload_n dX7_setSteam_36 2 rfl ?_
      refine am_iast (f := (r14.2.1 0)) dX7_setSteam_37 (hmc222 (m := r14) w16) (vp_lit (by decide)) ?_
      rw [tl2]
      have w17 := hmA0 w16 (upd (r14.2.1 0) 2 z1)
      obtain ⟨r18, e19⟩ : ∃ x, (mA r14 0 (upd (r14.2.1 0) 2 z1)) = x := ⟨_, rfl⟩
      have w20 := hm_eq e19 w17
      have hs := bnd_p e19 hs
      refine am_iload_n dX7_setSteam_38 0 rfl ?_
      exact am_ireturn dX7_setSteam_39 rfl rfl ⟨_, ifn c4 (ifn c5 (bnd_eq e15 (bnd_eq e19 (rfl)))), rfl, w20⟩
  · have hs := hs.1 c4
    refine am_bipush (v := (-2)) dX7_setSteam_12 (by decide) ?_
    exact am_ireturn dX7_setSteam_14 rfl rfl ⟨_, ifp c4 (rfl), rfl, hm⟩

theorem dX7_pack_0 : decode cX7_pack 0 = .ok (.aload_n 0, 1) := by decide +kernel
theorem dX7_pack_1 : decode cX7_pack 1 = .ok (.invokevirtual 176, 3) := by decide +kernel
theorem dX7_pack_4 : decode cX7_pack 4 = .ok (.istore_n 1, 1) := by decide +kernel
theorem dX7_pack_5 : decode cX7_pack 5 = .ok (.aload_n 0, 1) := by decide +kernel
theorem dX7_pack_6 : decode cX7_pack 6 = .ok (.getfield 147, 3) := by decide +kernel
theorem dX7_pack_9 : decode cX7_pack 9 = .ok (.ifCond .ne 5, 3) := by decide +kernel
theorem dX7_pack_12 : decode cX7_pack 12 = .ok (.iconst (-1), 1) := by decide +kernel
theorem dX7_pack_13 : decode cX7_pack 13 = .ok (.ireturn, 1) := by decide +kernel
theorem dX7_pack_14 : decode cX7_pack 14 = .ok (.aload_n 0, 1) := by decide +kernel
theorem dX7_pack_15 : decode cX7_pack 15 = .ok (.invokevirtual 209, 3) := by decide +kernel
theorem dX7_pack_18 : decode cX7_pack 18 = .ok (.iconst 0, 1) := by decide +kernel
theorem dX7_pack_19 : decode cX7_pack 19 = .ok (.istore_n 2, 1) := by decide +kernel
theorem dX7_pack_20 : decode cX7_pack 20 = .ok (.iload_n 2, 1) := by decide +kernel
theorem dX7_pack_21 : decode cX7_pack 21 = .ok (.aload_n 0, 1) := by decide +kernel
theorem dX7_pack_22 : decode cX7_pack 22 = .ok (.invokevirtual 85, 3) := by decide +kernel
theorem dX7_pack_25 : decode cX7_pack 25 = .ok (.if_icmp .ge 28, 3) := by decide +kernel
theorem dX7_pack_28 : decode cX7_pack 28 = .ok (.iload_n 1, 1) := by decide +kernel
theorem dX7_pack_29 : decode cX7_pack 29 = .ok (.iload_n 2, 1) := by decide +kernel
theorem dX7_pack_30 : decode cX7_pack 30 = .ok (.invokestatic 104, 3) := by decide +kernel
theorem dX7_pack_33 : decode cX7_pack 33 = .ok (.ifCond .eq 14, 3) := by decide +kernel
theorem dX7_pack_36 : decode cX7_pack 36 = .ok (.aload_n 0, 1) := by decide +kernel
theorem dX7_pack_37 : decode cX7_pack 37 = .ok (.getfield 13, 3) := by decide +kernel
theorem dX7_pack_40 : decode cX7_pack 40 = .ok (.iload_n 2, 1) := by decide +kernel
theorem dX7_pack_41 : decode cX7_pack 41 = .ok (.iconst 5, 1) := by decide +kernel
theorem dX7_pack_42 : decode cX7_pack 42 = .ok (.invokestatic 52, 3) := by decide +kernel
theorem dX7_pack_45 : decode cX7_pack 45 = .ok (.iconst 3, 1) := by decide +kernel
theorem dX7_pack_46 : decode cX7_pack 46 = .ok (.iastore, 1) := by decide +kernel
theorem dX7_pack_47 : decode cX7_pack 47 = .ok (.iinc 2 1, 3) := by decide +kernel
theorem dX7_pack_50 : decode cX7_pack 50 = .ok (.goto (-30), 3) := by decide +kernel
theorem dX7_pack_53 : decode cX7_pack 53 = .ok (.aload_n 0, 1) := by decide +kernel
theorem dX7_pack_54 : decode cX7_pack 54 = .ok (.getfield 147, 3) := by decide +kernel
theorem dX7_pack_57 : decode cX7_pack 57 = .ok (.ireturn, 1) := by decide +kernel
def fX7_pack_20  (o1 : Int32) : Nat → Int32 → Md → Int32 × Md
  | 0, x2, y => (x2, y)
  | fu + 1, x2, y => (if (fX7_count y ) ≤ x2 then (x2, y) else (if (fX7_hasBit o1 x2) = 0 then (fX7_pack_20  o1  fu (x2 + 1) y) else (bnd (mA y 0 (upd (y.2.1 0) (fX7_at x2 5).toNatClampNeg 3)) (fun r29 => (fX7_pack_20  o1  fu (x2 + 1) r29)))))
def sX7_pack_20  (o1 : Int32) : Nat → Int32 → Md → Prop
  | 0, _, _ => True
  | fu + 1, x2, y => (((fX7_count y ) ≤ x2 → True) ∧ (¬ (fX7_count y ) ≤ x2 → (((fX7_hasBit o1 x2) = 0 → (sX7_pack_20  o1  fu (x2 + 1) y)) ∧ (¬ (fX7_hasBit o1 x2) = 0 → (vp_in (fX7_at x2 5) 146 ∧ (bnd (mA y 0 (upd (y.2.1 0) (fX7_at x2 5).toNatClampNeg 3)) (fun r29 => (sX7_pack_20  o1  fu (x2 + 1) r29))))))))
set_option maxRecDepth 20000 in
theorem wX7_pack_20 {l : Launch} {G : GM} {K : Nat → Option va_E}  (o1 : Int32)  {Q : Option Value → List va_E → Prop} : ∀ (fu : Nat) (x2 : Int32) (y : Md) (iv : ivU 2147483647 x2 fu) (hs : sX7_pack_20  o1  fu x2 y) {h : List va_E} (gy : HM G K h y) (kx : ∀ (h1 : List va_E) (r : Int32 × Md), (fX7_pack_20  o1  fu x2 y) = r → HM G K h1 r.2 → Tr l G mX7_pack 9 0 0 53 [(2, .int r.1), (1, .int o1), (0, .ref (gz G + 221))] [] h1 Q), Tr l G mX7_pack 9 0 0 20 [(2, .int x2), (1, .int o1), (0, .ref (gz G + 221))] [] h Q := by
  intro fu
  induction fu with
  | zero => intro x2 y iv; intros; exact absurd iv ivU_0
  | succ fu ih =>
    intro x2 y iv hs  h gy  kx
    rw [sX7_pack_20] at hs
    refine am_iload_n dX7_pack_20 0 rfl ?_
    refine am_aload_n dX7_pack_21 2 rfl ?_
    refine am_callV (As := []) (rest := [.int x2]) dX7_pack_22 kMX7_85 rfl (hmc221 (m := y) gy) rfl rfl (Nat.le_of_ble_eq_true rfl) (d2 := 0) (by decide) (k2 := 0) (Nat.zero_le _) (u2 := 0) (Nat.zero_le _) (Nat.le_of_ble_eq_true rfl) (ctX7_count (m := y) gy  ) (fun v16 h17 q18 => ?_)
    obtain ⟨rfl, rfl⟩ := q18
    refine am_icmp_ge dX7_pack_25 (by decide : ((25 : Nat) : Int) + (28) = ((53 : Nat) : Int)) (fun c19 => ?_) (fun c19 => ?_)
    · have hs := hs.1 c19
      exact kx _ _ (ifp c19 (rfl)) gy 
    · have hs := hs.2 c19
      refine am_iload_n dX7_pack_28 1 rfl ?_
      refine am_iload_n dX7_pack_29 0 rfl ?_
      refine am_callS (As := [.int o1, .int x2]) (rest := []) dX7_pack_30 kMX7_104 rfl  rfl (Nat.le_of_ble_eq_true rfl) (d2 := 0) (by decide) (k2 := 0) (Nat.zero_le _) (u2 := 0) (Nat.zero_le _) (Nat.le_of_ble_eq_true rfl) (ctX7_hasBit  o1 x2 ) (fun v20 h21 q22 => ?_)
      obtain ⟨rfl, rfl⟩ := q22
      refine am_if_eq dX7_pack_33 (by decide : ((33 : Nat) : Int) + (14) = ((47 : Nat) : Int)) (fun c23 => ?_) (fun c23 => ?_)
      · have hs := hs.1 c23
        refine am_iinc (v := (x2 + 1)) dX7_pack_47 0 rfl rfl (by decide) (lv' := [(2, .int (x2 + 1)), (1, .int o1), (0, .ref (gz G + 221))]) rfl ?_
        refine am_goto dX7_pack_50 (by decide : ((50 : Nat) : Int) + (-30) = ((20 : Nat) : Int)) ?_
        exact ih (x2 + 1) y (ivU_s (iv_top c19) iv) hs gy  (fun h1 r e => kx h1 r (Eq.trans (ifn c19 (ifp c23 (rfl))) e))
      · have hs := hs.2 c23
        refine am_aload_n dX7_pack_36 2 rfl ?_
        refine am_get (v := .ref (gz G + 222)) dX7_pack_37 kGX7_13 (hmc221 (m := y) gy) rfl ?_
        refine am_iload_n dX7_pack_40 0 rfl ?_
        refine am_iconst (v := 5) dX7_pack_41 (by decide) ?_
        refine am_callS (As := [.int x2, .int 5]) (rest := [.ref (gz G + 222)]) dX7_pack_42 kMX7_52 rfl  rfl (Nat.le_of_ble_eq_true rfl) (d2 := 0) (by decide) (k2 := 0) (Nat.zero_le _) (u2 := 0) (Nat.zero_le _) (Nat.le_of_ble_eq_true rfl) (ctX7_at  x2 5 ) (fun v24 h25 q26 => ?_)
        obtain ⟨rfl, rfl⟩ := q26
        refine am_iconst (v := 3) dX7_pack_45 (by decide) ?_
        obtain ⟨i27, hs⟩ := hs
        refine am_iast (f := (y.2.1 0)) dX7_pack_46 (hmc222 (m := y) gy) i27 ?_
        have w28 := hmA0 gy (upd (y.2.1 0) (fX7_at x2 5).toNatClampNeg 3)
        obtain ⟨r29, e30⟩ : ∃ x, (mA y 0 (upd (y.2.1 0) (fX7_at x2 5).toNatClampNeg 3)) = x := ⟨_, rfl⟩
        have w31 := hm_eq e30 w28
        have hs := bnd_p e30 hs
        refine am_iinc (v := (x2 + 1)) dX7_pack_47 0 rfl rfl (by decide) (lv' := [(2, .int (x2 + 1)), (1, .int o1), (0, .ref (gz G + 221))]) rfl ?_
        refine am_goto dX7_pack_50 (by decide : ((50 : Nat) : Int) + (-30) = ((20 : Nat) : Int)) ?_
        exact ih (x2 + 1) r29 (ivU_s (iv_top c19) iv) hs w31  (fun h1 r e => kx h1 r (Eq.trans (ifn c19 (ifn c23 (bnd_eq e30 (rfl)))) e))
def fX7_pack (m : Md)  : Int32 × Md := (bnd (fX7_packedSet m ) (fun r5 => (if (r5.2.1 1) = 0 then ((-1), r5.2) else (bnd (fX7_remember r5.2 ) (fun r13 => (bnd (fX7_pack_20  r5.1  (fuU 2147483647 0) 0 r13) (fun r33 => ((r33.2.1 1), r33.2))))))))
def sX7_pack (m : Md)  : Prop := ((sX7_packedSet m ) ∧ (bnd (fX7_packedSet m ) (fun r5 => (((r5.2.1 1) = 0 → True) ∧ (¬ (r5.2.1 1) = 0 → ((sX7_remember r5.2 ) ∧ (bnd (fX7_remember r5.2 ) (fun r13 => ((sX7_pack_20  r5.1  (fuU 2147483647 0) 0 r13) ∧ bnd (fX7_pack_20  r5.1  (fuU 2147483647 0) 0 r13) (fun r33 => True))))))))))
set_option maxRecDepth 20000 in
theorem ctX7_pack {l : Launch} {G : GM} {K : Nat → Option va_E} {h : List va_E} {m : Md} (hm : HM G K h m)  (hs : sX7_pack m ) : Ct l G mX7_pack 9 0 0 [.ref (gz G + 221)] h (fun v h1 => ∃ r, (fX7_pack m ) = r ∧ v = some (.int r.1) ∧ HM G K h1 r.2) := by
  show Tr l G mX7_pack 9 0 0 0 [(0, .ref (gz G + 221))] [] h _
  unfold sX7_pack at hs
  refine am_aload_n dX7_pack_0 0 rfl ?_
  obtain ⟨i1, hs⟩ := hs
  refine am_callV (As := []) (rest := []) dX7_pack_1 kMX7_176 rfl (hmc221 (m := m) hm) rfl rfl (Nat.le_of_ble_eq_true rfl) (d2 := 8) (by decide) (k2 := 0) (Nat.zero_le _) (u2 := 0) (Nat.zero_le _) (Nat.le_of_ble_eq_true rfl) (ctX7_packedSet (m := m) hm  i1) (fun v2 h3 q4 => ?_)
  obtain ⟨r5, e6, rfl, w7⟩ := q4
  have hs := bnd_p e6 hs
  refine am_istore_n dX7_pack_4 (by decide) (lv' := [(1, .int r5.1), (0, .ref (gz G + 221))]) rfl ?_
  refine am_aload_n dX7_pack_5 1 rfl ?_
  refine am_get (v := .int (r5.2.1 1)) dX7_pack_6 kGX7_147 (hmc221 (m := r5.2) w7) rfl ?_
  refine am_if_ne dX7_pack_9 (by decide : ((9 : Nat) : Int) + (5) = ((14 : Nat) : Int)) (fun c8 => ?_) (fun c8 => ?_)
  · have hs := hs.2 c8
    refine am_aload_n dX7_pack_14 1 rfl ?_
    obtain ⟨i9, hs⟩ := hs
    refine am_callV (As := []) (rest := []) dX7_pack_15 kMX7_209 rfl (hmc221 (m := r5.2) w7) rfl rfl (Nat.le_of_ble_eq_true rfl) (d2 := 0) (by decide) (k2 := 0) (Nat.zero_le _) (u2 := 0) (Nat.zero_le _) (Nat.le_of_ble_eq_true rfl) (ctX7_remember (m := r5.2) w7  i9) (fun v10 h11 q12 => ?_)
    obtain ⟨r13, e14, rfl, w15⟩ := q12
    have hs := bnd_p e14 hs
    refine am_iconst (v := 0) dX7_pack_18 (by decide) ?_
    refine am_istore_n dX7_pack_19 (by decide) (lv' := [(2, .int 0), (1, .int r5.1), (0, .ref (gz G + 221))]) rfl ?_
    obtain ⟨i32, hs⟩ := hs
    refine wX7_pack_20  r5.1  (fuU 2147483647 0) 0 r13 ivU_i i32 w15  (fun h35 r33 e34 w36  => ?_)
    have hs := bnd_p e34 hs
    refine am_aload_n dX7_pack_53 2 rfl ?_
    refine am_get (v := .int (r33.2.1 1)) dX7_pack_54 kGX7_147 (hmc221 (m := r33.2) w36) rfl ?_
    exact am_ireturn dX7_pack_57 rfl rfl ⟨_, bnd_eq e6 (ifn c8 (bnd_eq e14 (bnd_eq e34 (rfl)))), rfl, w36⟩
  · have hs := hs.1 c8
    refine am_iconst (v := (-1)) dX7_pack_12 (by decide) ?_
    exact am_ireturn dX7_pack_13 rfl rfl ⟨_, bnd_eq e6 (ifp c8 (rfl)), rfl, w7⟩

theorem dX7_appendFour_0 : decode cX7_appendFour 0 = .ok (.bipush 24, 2) := by decide +kernel
theorem dX7_appendFour_2 : decode cX7_appendFour 2 = .ok (.istore_n 2, 1) := by decide +kernel
theorem dX7_appendFour_3 : decode cX7_appendFour 3 = .ok (.iload_n 2, 1) := by decide +kernel
theorem dX7_appendFour_4 : decode cX7_appendFour 4 = .ok (.ifCond .lt 32, 3) := by decide +kernel
theorem dX7_appendFour_7 : decode cX7_appendFour 7 = .ok (.aload_n 0, 1) := by decide +kernel
theorem dX7_appendFour_8 : decode cX7_appendFour 8 = .ok (.getfield 38, 3) := by decide +kernel
theorem dX7_appendFour_11 : decode cX7_appendFour 11 = .ok (.aload_n 0, 1) := by decide +kernel
theorem dX7_appendFour_12 : decode cX7_appendFour 12 = .ok (.getfield 219, 3) := by decide +kernel
theorem dX7_appendFour_15 : decode cX7_appendFour 15 = .ok (.iload_n 1, 1) := by decide +kernel
theorem dX7_appendFour_16 : decode cX7_appendFour 16 = .ok (.iload_n 2, 1) := by decide +kernel
theorem dX7_appendFour_17 : decode cX7_appendFour 17 = .ok (.ishr, 1) := by decide +kernel
theorem dX7_appendFour_18 : decode cX7_appendFour 18 = .ok (.i2b, 1) := by decide +kernel
theorem dX7_appendFour_19 : decode cX7_appendFour 19 = .ok (.bastore, 1) := by decide +kernel
theorem dX7_appendFour_20 : decode cX7_appendFour 20 = .ok (.aload_n 0, 1) := by decide +kernel
theorem dX7_appendFour_21 : decode cX7_appendFour 21 = .ok (.dup, 1) := by decide +kernel
theorem dX7_appendFour_22 : decode cX7_appendFour 22 = .ok (.getfield 219, 3) := by decide +kernel
theorem dX7_appendFour_25 : decode cX7_appendFour 25 = .ok (.iconst 1, 1) := by decide +kernel
theorem dX7_appendFour_26 : decode cX7_appendFour 26 = .ok (.iadd, 1) := by decide +kernel
theorem dX7_appendFour_27 : decode cX7_appendFour 27 = .ok (.putfield 219, 3) := by decide +kernel
theorem dX7_appendFour_30 : decode cX7_appendFour 30 = .ok (.iinc 2 (-8), 3) := by decide +kernel
theorem dX7_appendFour_33 : decode cX7_appendFour 33 = .ok (.goto (-30), 3) := by decide +kernel
theorem dX7_appendFour_36 : decode cX7_appendFour 36 = .ok (.return_, 1) := by decide +kernel
def fX7_appendFour_3 (z1 : Int32)  : Nat → Int32 → Md → Int32 × Md
  | 0, x2, y => (x2, y)
  | fu + 1, x2, y => (if x2 < 0 then (x2, y) else (bnd (mA y 7 (upd (y.2.1 7) (y.1 3).toNatClampNeg ((z1 >>> (x2 &&& 31)).toInt8.toInt32).toInt8.toInt32)) (fun r4 => (fX7_appendFour_3 z1   fu (x2 + (-8)) (mS r4 3 ((r4.1 3) + 1))))))
def sX7_appendFour_3 (z1 : Int32)  : Nat → Int32 → Md → Prop
  | 0, _, _ => True
  | fu + 1, x2, y => ((x2 < 0 → True) ∧ (¬ x2 < 0 → (vp_in (y.1 3) 1200 ∧ (bnd (mA y 7 (upd (y.2.1 7) (y.1 3).toNatClampNeg ((z1 >>> (x2 &&& 31)).toInt8.toInt32).toInt8.toInt32)) (fun r4 => (sX7_appendFour_3 z1   fu (x2 + (-8)) (mS r4 3 ((r4.1 3) + 1))))))))
set_option maxRecDepth 20000 in
theorem wX7_appendFour_3 {l : Launch} {G : GM} {K : Nat → Option va_E} (z1 : Int32)   {Q : Option Value → List va_E → Prop} : ∀ (fu : Nat) (x2 : Int32) (y : Md) (iv : ivD x2 fu) (hs : sX7_appendFour_3 z1   fu x2 y) {h : List va_E} (gy : HM G K h y) (kx : ∀ (h1 : List va_E) (r : Int32 × Md), (fX7_appendFour_3 z1   fu x2 y) = r → HM G K h1 r.2 → Tr l G mX7_appendFour 0 0 0 36 [(2, .int r.1), (0, .ref (gz G + 221)), (1, .int z1)] [] h1 Q), Tr l G mX7_appendFour 0 0 0 3 [(2, .int x2), (0, .ref (gz G + 221)), (1, .int z1)] [] h Q := by
  intro fu
  induction fu with
  | zero => intro x2 y iv; intros; exact absurd iv ivD_0
  | succ fu ih =>
    intro x2 y iv hs  h gy  kx
    rw [sX7_appendFour_3] at hs
    refine am_iload_n dX7_appendFour_3 0 rfl ?_
    refine am_if_lt dX7_appendFour_4 (by decide : ((4 : Nat) : Int) + (32) = ((36 : Nat) : Int)) (fun c1 => ?_) (fun c1 => ?_)
    · have hs := hs.1 c1
      exact kx _ _ (ifp c1 (rfl)) gy 
    · have hs := hs.2 c1
      refine am_aload_n dX7_appendFour_7 1 rfl ?_
      refine am_get (v := .ref (gz G + 229)) dX7_appendFour_8 kGX7_38 (hmc221 (m := y) gy) rfl ?_
      refine am_aload_n dX7_appendFour_11 1 rfl ?_
      refine am_get (v := .int (y.1 3)) dX7_appendFour_12 kGX7_219 (hmc221 (m := y) gy) rfl ?_
      refine am_iload_n dX7_appendFour_15 2 rfl ?_
      refine am_iload_n dX7_appendFour_16 0 rfl ?_
      refine am_ishr dX7_appendFour_17 ?_
      refine am_i2b (v := (z1 >>> (x2 &&& 31)).toInt8.toInt32) dX7_appendFour_18 rfl ?_
      obtain ⟨i2, hs⟩ := hs
      refine am_bast (f := (y.2.1 7)) dX7_appendFour_19 (hmc229 (m := y) gy) i2 ?_
      have w3 := hmA7 gy (upd (y.2.1 7) (y.1 3).toNatClampNeg ((z1 >>> (x2 &&& 31)).toInt8.toInt32).toInt8.toInt32)
      obtain ⟨r4, e5⟩ : ∃ x, (mA y 7 (upd (y.2.1 7) (y.1 3).toNatClampNeg ((z1 >>> (x2 &&& 31)).toInt8.toInt32).toInt8.toInt32)) = x := ⟨_, rfl⟩
      have w6 := hm_eq e5 w3
      have hs := bnd_p e5 hs
      refine am_aload_n dX7_appendFour_20 1 rfl ?_
      refine am_dup dX7_appendFour_21 rfl ?_
      refine am_get (v := .int (r4.1 3)) dX7_appendFour_22 kGX7_219 (hmc221 (m := r4) w6) rfl ?_
      refine am_iconst (v := 1) dX7_appendFour_25 (by decide) ?_
      refine am_iadd dX7_appendFour_26 ?_
      refine am_put dX7_appendFour_27 kFX7_219 (hmc221 (m := r4) w6) (Nat.le_of_ble_eq_true rfl) rfl rfl ?_
      have w7 := hmS3 w6 ((r4.1 3) + 1)
      refine am_iinc (v := (x2 + (-8))) dX7_appendFour_30 0 rfl rfl (by decide) (lv' := [(2, .int (x2 + (-8))), (0, .ref (gz G + 221)), (1, .int z1)]) rfl ?_
      refine am_goto dX7_appendFour_33 (by decide : ((33 : Nat) : Int) + (-30) = ((3 : Nat) : Int)) ?_
      exact ih (x2 + (-8)) (mS r4 3 ((r4.1 3) + 1)) (ivD_s c1 (by decide) iv) hs w7  (fun h1 r e => kx h1 r (Eq.trans (ifn c1 (bnd_eq e5 (rfl))) e))
def fX7_appendFour (m : Md) (z1 : Int32) : Md := (bnd (fX7_appendFour_3 z1   (fuD 24) 24 m) (fun r9 => r9.2))
def sX7_appendFour (m : Md) (z1 : Int32) : Prop := ((sX7_appendFour_3 z1   (fuD 24) 24 m) ∧ bnd (fX7_appendFour_3 z1   (fuD 24) 24 m) (fun r9 => True))
set_option maxRecDepth 20000 in
theorem ctX7_appendFour {l : Launch} {G : GM} {K : Nat → Option va_E} {h : List va_E} {m : Md} (hm : HM G K h m) (z1 : Int32) (hs : sX7_appendFour m z1) : Ct l G mX7_appendFour 0 0 0 [.ref (gz G + 221), .int z1] h (fun v h1 => ∃ r, (fX7_appendFour m z1) = r ∧ v = none ∧ HM G K h1 r) := by
  show Tr l G mX7_appendFour 0 0 0 0 [(0, .ref (gz G + 221)), (1, .int z1)] [] h _
  unfold sX7_appendFour at hs
  refine am_bipush (v := 24) dX7_appendFour_0 (by decide) ?_
  refine am_istore_n dX7_appendFour_2 (by decide) (lv' := [(2, .int 24), (0, .ref (gz G + 221)), (1, .int z1)]) rfl ?_
  obtain ⟨i8, hs⟩ := hs
  refine wX7_appendFour_3 z1   (fuD 24) 24 m ivD_i i8 hm  (fun h11 r9 e10 w12  => ?_)
  have hs := bnd_p e10 hs
  exact am_return dX7_appendFour_36 rfl ⟨_, bnd_eq e10 (rfl), rfl, w12⟩

theorem dX7_append_0 : decode cX7_append 0 = .ok (.aload_n 0, 1) := by decide +kernel
theorem dX7_append_1 : decode cX7_append 1 = .ok (.getfield 219, 3) := by decide +kernel
theorem dX7_append_4 : decode cX7_append 4 = .ok (.bipush 20, 2) := by decide +kernel
theorem dX7_append_6 : decode cX7_append 6 = .ok (.iadd, 1) := by decide +kernel
theorem dX7_append_7 : decode cX7_append 7 = .ok (.sipush 1200, 3) := by decide +kernel
theorem dX7_append_10 : decode cX7_append 10 = .ok (.if_icmp .le 5, 3) := by decide +kernel
theorem dX7_append_13 : decode cX7_append 13 = .ok (.iconst (-1), 1) := by decide +kernel
theorem dX7_append_14 : decode cX7_append 14 = .ok (.ireturn, 1) := by decide +kernel
theorem dX7_append_15 : decode cX7_append 15 = .ok (.aload_n 0, 1) := by decide +kernel
theorem dX7_append_16 : decode cX7_append 16 = .ok (.iload_n 1, 1) := by decide +kernel
theorem dX7_append_17 : decode cX7_append 17 = .ok (.invokevirtual 222, 3) := by decide +kernel
theorem dX7_append_20 : decode cX7_append 20 = .ok (.aload_n 0, 1) := by decide +kernel
theorem dX7_append_21 : decode cX7_append 21 = .ok (.iload_n 2, 1) := by decide +kernel
theorem dX7_append_22 : decode cX7_append 22 = .ok (.invokevirtual 222, 3) := by decide +kernel
theorem dX7_append_25 : decode cX7_append 25 = .ok (.aload_n 0, 1) := by decide +kernel
theorem dX7_append_26 : decode cX7_append 26 = .ok (.iload_n 3, 1) := by decide +kernel
theorem dX7_append_27 : decode cX7_append 27 = .ok (.invokevirtual 222, 3) := by decide +kernel
theorem dX7_append_30 : decode cX7_append 30 = .ok (.aload_n 0, 1) := by decide +kernel
theorem dX7_append_31 : decode cX7_append 31 = .ok (.iload 4, 2) := by decide +kernel
theorem dX7_append_33 : decode cX7_append 33 = .ok (.invokevirtual 222, 3) := by decide +kernel
theorem dX7_append_36 : decode cX7_append 36 = .ok (.aload_n 0, 1) := by decide +kernel
theorem dX7_append_37 : decode cX7_append 37 = .ok (.iload 5, 2) := by decide +kernel
theorem dX7_append_39 : decode cX7_append 39 = .ok (.invokevirtual 222, 3) := by decide +kernel
theorem dX7_append_42 : decode cX7_append 42 = .ok (.aload_n 0, 1) := by decide +kernel
theorem dX7_append_43 : decode cX7_append 43 = .ok (.getfield 219, 3) := by decide +kernel
theorem dX7_append_46 : decode cX7_append 46 = .ok (.ireturn, 1) := by decide +kernel
def fX7_append (m : Md) (z1 : Int32) (z2 : Int32) (z3 : Int32) (z4 : Int32) (z5 : Int32) : Int32 × Md := (if ((m.1 3) + 20) ≤ 1200 then (bnd (fX7_appendFour m z1) (fun r6 => (bnd (fX7_appendFour r6 z2) (fun r13 => (bnd (fX7_appendFour r13 z3) (fun r20 => (bnd (fX7_appendFour r20 z4) (fun r27 => (bnd (fX7_appendFour r27 z5) (fun r34 => ((r34.1 3), r34))))))))))) else ((-1), m))
def sX7_append (m : Md) (z1 : Int32) (z2 : Int32) (z3 : Int32) (z4 : Int32) (z5 : Int32) : Prop := ((((m.1 3) + 20) ≤ 1200 → ((sX7_appendFour m z1) ∧ (bnd (fX7_appendFour m z1) (fun r6 => ((sX7_appendFour r6 z2) ∧ (bnd (fX7_appendFour r6 z2) (fun r13 => ((sX7_appendFour r13 z3) ∧ (bnd (fX7_appendFour r13 z3) (fun r20 => ((sX7_appendFour r20 z4) ∧ (bnd (fX7_appendFour r20 z4) (fun r27 => ((sX7_appendFour r27 z5) ∧ (bnd (fX7_appendFour r27 z5) (fun r34 => True)))))))))))))))) ∧ (¬ ((m.1 3) + 20) ≤ 1200 → True))
set_option maxRecDepth 20000 in
theorem ctX7_append {l : Launch} {G : GM} {K : Nat → Option va_E} {h : List va_E} {m : Md} (hm : HM G K h m) (z1 : Int32) (z2 : Int32) (z3 : Int32) (z4 : Int32) (z5 : Int32) (hs : sX7_append m z1 z2 z3 z4 z5) : Ct l G mX7_append 1 0 0 [.ref (gz G + 221), .int z1, .int z2, .int z3, .int z4, .int z5] h (fun v h1 => ∃ r, (fX7_append m z1 z2 z3 z4 z5) = r ∧ v = some (.int r.1) ∧ HM G K h1 r.2) := by
  show Tr l G mX7_append 1 0 0 0 [(0, .ref (gz G + 221)), (1, .int z1), (2, .int z2), (3, .int z3), (4, .int z4), (5, .int z5)] [] h _
  unfold sX7_append at hs
  refine am_aload_n dX7_append_0 0 rfl ?_
  refine am_get (v := .int (m.1 3)) dX7_append_1 kGX7_219 (hmc221 (m := m) hm) rfl ?_
  refine am_bipush (v := 20) dX7_append_4 (by decide) ?_
  refine am_iadd dX7_append_6 ?_
  refine am_sipush (v := 1200) dX7_append_7 (by decide) ?_
  refine am_icmp_le dX7_append_10 (by decide : ((10 : Nat) : Int) + (5) = ((15 : Nat) : Int)) (fun c1 => ?_) (fun c1 => ?_)
  · have hs := hs.1 c1
    refine am_aload_n dX7_append_15 0 rfl ?_
    refine am_iload_n dX7_append_16 1 rfl ?_
    obtain ⟨i2, hs⟩ := hs
    refine am_callV (As := [.int z1]) (rest := []) dX7_append_17 kMX7_222 rfl (hmc221 (m := m) hm) rfl rfl (Nat.le_of_ble_eq_true rfl) (d2 := 0) (by decide) (k2 := 0) (Nat.zero_le _) (u2 := 0) (Nat.zero_le _) (Nat.le_of_ble_eq_true rfl) (ctX7_appendFour (m := m) hm z1 i2) (fun v3 h4 q5 => ?_)
    obtain ⟨r6, e7, rfl, w8⟩ := q5
    have hs := bnd_p e7 hs
    refine am_aload_n dX7_append_20 0 rfl ?_
    refine am_iload_n dX7_append_21 2 rfl ?_
    obtain ⟨i9, hs⟩ := hs
    refine am_callV (As := [.int z2]) (rest := []) dX7_append_22 kMX7_222 rfl (hmc221 (m := r6) w8) rfl rfl (Nat.le_of_ble_eq_true rfl) (d2 := 0) (by decide) (k2 := 0) (Nat.zero_le _) (u2 := 0) (Nat.zero_le _) (Nat.le_of_ble_eq_true rfl) (ctX7_appendFour (m := r6) w8 z2 i9) (fun v10 h11 q12 => ?_)
    obtain ⟨r13, e14, rfl, w15⟩ := q12
    have hs := bnd_p e14 hs
    refine am_aload_n dX7_append_25 0 rfl ?_
    refine am_iload_n dX7_append_26 3 rfl ?_
    obtain ⟨i16, hs⟩ := hs
    refine am_callV (As := [.int z3]) (rest := []) dX7_append_27 kMX7_222 rfl (hmc221 (m := r13) w15) rfl rfl (Nat.le_of_ble_eq_true rfl) (d2 := 0) (by decide) (k2 := 0) (Nat.zero_le _) (u2 := 0) (Nat.zero_le _) (Nat.le_of_ble_eq_true rfl) (ctX7_appendFour (m := r13) w15 z3 i16) (fun v17 h18 q19 => ?_)
    obtain ⟨r20, e21, rfl, w22⟩ := q19
    have hs := bnd_p e21 hs
    refine am_aload_n dX7_append_30 0 rfl ?_
    refine am_iload dX7_append_31 4 rfl ?_
    obtain ⟨i23, hs⟩ := hs
    refine am_callV (As := [.int z4]) (rest := []) dX7_append_33 kMX7_222 rfl (hmc221 (m := r20) w22) rfl rfl (Nat.le_of_ble_eq_true rfl) (d2 := 0) (by decide) (k2 := 0) (Nat.zero_le _) (u2 := 0) (Nat.zero_le _) (Nat.le_of_ble_eq_true rfl) (ctX7_appendFour (m := r20) w22 z4 i23) (fun v24 h25 q26 => ?_)
    obtain ⟨r27, e28, rfl, w29⟩ := q26
    have hs := bnd_p e28 hs
    refine am_aload_n dX7_append_36 0 rfl ?_
    refine am_iload dX7_append_37 5 rfl ?_
    obtain ⟨i30, hs⟩ := hs
    refine am_callV (As := [.int z5]) (rest := []) dX7_append_39 kMX7_222 rfl (hmc221 (m := r27) w29) rfl rfl (Nat.le_of_ble_eq_true rfl) (d2 := 0) (by decide) (k2 := 0) (Nat.zero_le _) (u2 := 0) (Nat.zero_le _) (Nat.le_of_ble_eq_true rfl) (ctX7_appendFour (m := r27) w29 z5 i30) (fun v31 h32 q33 => ?_)
    obtain ⟨r34, e35, rfl, w36⟩ := q33
    have hs := bnd_p e35 hs
    refine am_aload_n dX7_append_42 0 rfl ?_
    refine am_get (v := .int (r34.1 3)) dX7_append_43 kGX7_219 (hmc221 (m := r34) w36) rfl ?_
    exact am_ireturn dX7_append_46 rfl rfl ⟨_, ifp c1 (bnd_eq e7 (bnd_eq e14 (bnd_eq e21 (bnd_eq e28 (bnd_eq e35 (rfl)))))), rfl, w36⟩
  · have hs := hs.2 c1
    refine am_iconst (v := (-1)) dX7_append_13 (by decide) ?_
    exact am_ireturn dX7_append_14 rfl rfl ⟨_, ifn c1 (rfl), rfl, hm⟩

theorem dX7_truncate_0 : decode cX7_truncate 0 = .ok (.iload_n 1, 1) := by decide +kernel
theorem dX7_truncate_1 : decode cX7_truncate 1 = .ok (.i2l, 1) := by decide +kernel
theorem dX7_truncate_2 : decode cX7_truncate 2 = .ok (.lconst 0, 1) := by decide +kernel
theorem dX7_truncate_3 : decode cX7_truncate 3 = .ok (.aload_n 0, 1) := by decide +kernel
theorem dX7_truncate_4 : decode cX7_truncate 4 = .ok (.getfield 219, 3) := by decide +kernel
theorem dX7_truncate_7 : decode cX7_truncate 7 = .ok (.i2l, 1) := by decide +kernel
theorem dX7_truncate_8 : decode cX7_truncate 8 = .ok (.invokestatic 56, 3) := by decide +kernel
theorem dX7_truncate_11 : decode cX7_truncate 11 = .ok (.ifCond .ne 5, 3) := by decide +kernel
theorem dX7_truncate_14 : decode cX7_truncate 14 = .ok (.iconst (-1), 1) := by decide +kernel
theorem dX7_truncate_15 : decode cX7_truncate 15 = .ok (.ireturn, 1) := by decide +kernel
theorem dX7_truncate_16 : decode cX7_truncate 16 = .ok (.aload_n 0, 1) := by decide +kernel
theorem dX7_truncate_17 : decode cX7_truncate 17 = .ok (.iload_n 1, 1) := by decide +kernel
theorem dX7_truncate_18 : decode cX7_truncate 18 = .ok (.putfield 219, 3) := by decide +kernel
theorem dX7_truncate_21 : decode cX7_truncate 21 = .ok (.iload_n 1, 1) := by decide +kernel
theorem dX7_truncate_22 : decode cX7_truncate 22 = .ok (.ireturn, 1) := by decide +kernel
def fX7_truncate (m : Md) (z1 : Int32) : Int32 × Md := (if (fX7_in (z1.toInt64) 0 ((m.1 3).toInt64)) = 0 then ((-1), m) else (z1, (mS m 3 z1)))
set_option maxRecDepth 20000 in
theorem ctX7_truncate {l : Launch} {G : GM} {K : Nat → Option va_E} {h : List va_E} {m : Md} (hm : HM G K h m) (z1 : Int32) : Ct l G mX7_truncate 1 0 0 [.ref (gz G + 221), .int z1] h (fun v h1 => ∃ r, (fX7_truncate m z1) = r ∧ v = some (.int r.1) ∧ HM G K h1 r.2) := by
  show Tr l G mX7_truncate 1 0 0 0 [(0, .ref (gz G + 221)), (1, .int z1)] [] h _
  refine am_iload_n dX7_truncate_0 1 rfl ?_
  refine am_i2l (v := z1.toInt64) dX7_truncate_1 rfl ?_
  refine am_lconst (v := 0) dX7_truncate_2 (by decide) ?_
  refine am_aload_n dX7_truncate_3 0 rfl ?_
  refine am_get (v := .int (m.1 3)) dX7_truncate_4 kGX7_219 (hmc221 (m := m) hm) rfl ?_
  refine am_i2l (v := (m.1 3).toInt64) dX7_truncate_7 rfl ?_
  refine am_callS (As := [.long (z1.toInt64), .long 0, .long ((m.1 3).toInt64)]) (rest := []) dX7_truncate_8 kMX7_56 rfl  rfl (Nat.le_of_ble_eq_true rfl) (d2 := 0) (by decide) (k2 := 0) (Nat.zero_le _) (u2 := 0) (Nat.zero_le _) (Nat.le_of_ble_eq_true rfl) (ctX7_in  (z1.toInt64) 0 ((m.1 3).toInt64) ) (fun v1 h2 q3 => ?_)
  obtain ⟨rfl, rfl⟩ := q3
  refine am_if_ne dX7_truncate_11 (by decide : ((11 : Nat) : Int) + (5) = ((16 : Nat) : Int)) (fun c4 => ?_) (fun c4 => ?_)
  · refine am_aload_n dX7_truncate_16 0 rfl ?_
    refine am_iload_n dX7_truncate_17 1 rfl ?_
    refine am_put dX7_truncate_18 kFX7_219 (hmc221 (m := m) hm) (Nat.le_of_ble_eq_true rfl) rfl rfl ?_
    have w5 := hmS3 hm z1
    refine am_iload_n dX7_truncate_21 1 rfl ?_
    exact am_ireturn dX7_truncate_22 rfl rfl ⟨_, ifn c4 (rfl), rfl, w5⟩
  · refine am_iconst (v := (-1)) dX7_truncate_14 (by decide) ?_
    exact am_ireturn dX7_truncate_15 rfl rfl ⟨_, ifp c4 (rfl), rfl, hm⟩

theorem dX7_good_0 : decode cX7_good 0 = .ok (.aload_n 0, 1) := by decide +kernel
theorem dX7_good_1 : decode cX7_good 1 = .ok (.getfield 226, 3) := by decide +kernel
theorem dX7_good_4 : decode cX7_good 4 = .ok (.ifCond .ne 7, 3) := by decide +kernel
theorem dX7_good_7 : decode cX7_good 7 = .ok (.iconst 1, 1) := by decide +kernel
theorem dX7_good_8 : decode cX7_good 8 = .ok (.goto 4, 3) := by decide +kernel
theorem dX7_good_11 : decode cX7_good 11 = .ok (.iconst 0, 1) := by decide +kernel
theorem dX7_good_12 : decode cX7_good 12 = .ok (.ireturn, 1) := by decide +kernel
def fX7_good (m : Md)  : Int32 := (if (m.1 9) = 0 then 1 else 0)
set_option maxRecDepth 20000 in
theorem ctX7_good {l : Launch} {G : GM} {K : Nat → Option va_E} {h : List va_E} {m : Md} (hm : HM G K h m)  : Ct l G mX7_good 0 0 0 [.ref (gz G + 221)] h (fun v h1 => v = some (.int (fX7_good m )) ∧ h1 = h) := by
  show Tr l G mX7_good 0 0 0 0 [(0, .ref (gz G + 221))] [] h _
  refine am_aload_n dX7_good_0 0 rfl ?_
  refine am_get (v := .int (m.1 9)) dX7_good_1 kGX7_226 (hmc221 (m := m) hm) rfl ?_
  refine am_if_ne dX7_good_4 (by decide : ((4 : Nat) : Int) + (7) = ((11 : Nat) : Int)) (fun c1 => ?_) (fun c1 => ?_)
  · refine am_iconst (v := 0) dX7_good_11 (by decide) ?_
    rw [show (fX7_good m ) = 0 from ifn c1 (rfl)]
    exact am_ireturn dX7_good_12 rfl rfl ⟨rfl, rfl⟩
  · refine am_iconst (v := 1) dX7_good_7 (by decide) ?_
    refine am_goto dX7_good_8 (by decide : ((8 : Nat) : Int) + (4) = ((12 : Nat) : Int)) ?_
    rw [show (fX7_good m ) = 1 from ifp c1 (rfl)]
    exact am_ireturn dX7_good_12 rfl rfl ⟨rfl, rfl⟩

theorem dX7_fail_0 : decode cX7_fail 0 = .ok (.aload_n 0, 1) := by decide +kernel
theorem dX7_fail_1 : decode cX7_fail 1 = .ok (.invokevirtual 229, 3) := by decide +kernel
theorem dX7_fail_4 : decode cX7_fail 4 = .ok (.ifCond .ne 4, 3) := by decide +kernel
theorem dX7_fail_7 : decode cX7_fail 7 = .ok (.return_, 1) := by decide +kernel
theorem dX7_fail_8 : decode cX7_fail 8 = .ok (.aload_n 0, 1) := by decide +kernel
theorem dX7_fail_9 : decode cX7_fail 9 = .ok (.iload_n 1, 1) := by decide +kernel
theorem dX7_fail_10 : decode cX7_fail 10 = .ok (.putfield 226, 3) := by decide +kernel
theorem dX7_fail_13 : decode cX7_fail 13 = .ok (.aload_n 0, 1) := by decide +kernel
theorem dX7_fail_14 : decode cX7_fail 14 = .ok (.aload_n 0, 1) := by decide +kernel
theorem dX7_fail_15 : decode cX7_fail 15 = .ok (.getfield 233, 3) := by decide +kernel
theorem dX7_fail_18 : decode cX7_fail 18 = .ok (.putfield 42, 3) := by decide +kernel
theorem dX7_fail_21 : decode cX7_fail 21 = .ok (.return_, 1) := by decide +kernel
def fX7_fail (m : Md) (z1 : Int32) : Md := (if (fX7_good m ) = 0 then m else (mS (mS m 9 z1) 10 (m.1 6)))
set_option maxRecDepth 20000 in
theorem ctX7_fail {l : Launch} {G : GM} {K : Nat → Option va_E} {h : List va_E} {m : Md} (hm : HM G K h m) (z1 : Int32) : Ct l G mX7_fail 1 0 0 [.ref (gz G + 221), .int z1] h (fun v h1 => ∃ r, (fX7_fail m z1) = r ∧ v = none ∧ HM G K h1 r) := by
  show Tr l G mX7_fail 1 0 0 0 [(0, .ref (gz G + 221)), (1, .int z1)] [] h _
  refine am_aload_n dX7_fail_0 0 rfl ?_
  refine am_callV (As := []) (rest := []) dX7_fail_1 kMX7_229 rfl (hmc221 (m := m) hm) rfl rfl (Nat.le_of_ble_eq_true rfl) (d2 := 0) (by decide) (k2 := 0) (Nat.zero_le _) (u2 := 0) (Nat.zero_le _) (Nat.le_of_ble_eq_true rfl) (ctX7_good (m := m) hm  ) (fun v1 h2 q3 => ?_)
  obtain ⟨rfl, rfl⟩ := q3
  refine am_if_ne dX7_fail_4 (by decide : ((4 : Nat) : Int) + (4) = ((8 : Nat) : Int)) (fun c4 => ?_) (fun c4 => ?_)
  · refine am_aload_n dX7_fail_8 0 rfl ?_
    refine am_iload_n dX7_fail_9 1 rfl ?_
    refine am_put dX7_fail_10 kFX7_226 (hmc221 (m := m) hm) (Nat.le_of_ble_eq_true rfl) rfl rfl ?_
    have w5 := hmS9 hm z1
    refine am_aload_n dX7_fail_13 0 rfl ?_
    refine am_aload_n dX7_fail_14 0 rfl ?_
    refine am_get (v := .int (m.1 6)) dX7_fail_15 kGX7_233 (hmc221 (m := (mS m 9 z1)) w5) rfl ?_
    refine am_put dX7_fail_18 kFX7_42 (hmc221 (m := (mS m 9 z1)) w5) (Nat.le_of_ble_eq_true rfl) rfl rfl ?_
    have w6 := hmS10 w5 (m.1 6)
    exact am_return dX7_fail_21 rfl ⟨_, ifn c4 (rfl), rfl, w6⟩
  · exact am_return dX7_fail_7 rfl ⟨_, ifp c4 (rfl), rfl, hm⟩

theorem dX7_byteAt_0 : decode cX7_byteAt 0 = .ok (.iload_n 1, 1) := by decide +kernel
theorem dX7_byteAt_1 : decode cX7_byteAt 1 = .ok (.aload_n 0, 1) := by decide +kernel
theorem dX7_byteAt_2 : decode cX7_byteAt 2 = .ok (.getfield 236, 3) := by decide +kernel
theorem dX7_byteAt_5 : decode cX7_byteAt 5 = .ok (.if_icmp .ge 16, 3) := by decide +kernel
theorem dX7_byteAt_8 : decode cX7_byteAt 8 = .ok (.aload_n 0, 1) := by decide +kernel
theorem dX7_byteAt_9 : decode cX7_byteAt 9 = .ok (.getfield 38, 3) := by decide +kernel
theorem dX7_byteAt_12 : decode cX7_byteAt 12 = .ok (.iload_n 1, 1) := by decide +kernel
theorem dX7_byteAt_13 : decode cX7_byteAt 13 = .ok (.baload, 1) := by decide +kernel
theorem dX7_byteAt_14 : decode cX7_byteAt 14 = .ok (.sipush 255, 3) := by decide +kernel
theorem dX7_byteAt_17 : decode cX7_byteAt 17 = .ok (.iand, 1) := by decide +kernel
theorem dX7_byteAt_18 : decode cX7_byteAt 18 = .ok (.goto 4, 3) := by decide +kernel
theorem dX7_byteAt_21 : decode cX7_byteAt 21 = .ok (.iconst (-1), 1) := by decide +kernel
theorem dX7_byteAt_22 : decode cX7_byteAt 22 = .ok (.ireturn, 1) := by decide +kernel
def fX7_byteAt (m : Md) (z1 : Int32) : Int32 := (if (m.1 4) ≤ z1 then (-1) else (((m.2.1 7) z1.toNatClampNeg) &&& 255))
def sX7_byteAt (m : Md) (z1 : Int32) : Prop := (((m.1 4) ≤ z1 → True) ∧ (¬ (m.1 4) ≤ z1 → (vp_in z1 1200 ∧ True)))
set_option maxRecDepth 20000 in
theorem ctX7_byteAt {l : Launch} {G : GM} {K : Nat → Option va_E} {h : List va_E} {m : Md} (hm : HM G K h m) (z1 : Int32) (hs : sX7_byteAt m z1) : Ct l G mX7_byteAt 0 0 0 [.ref (gz G + 221), .int z1] h (fun v h1 => v = some (.int (fX7_byteAt m z1)) ∧ h1 = h) := by
  show Tr l G mX7_byteAt 0 0 0 0 [(0, .ref (gz G + 221)), (1, .int z1)] [] h _
  unfold sX7_byteAt at hs
  refine am_iload_n dX7_byteAt_0 1 rfl ?_
  refine am_aload_n dX7_byteAt_1 0 rfl ?_
  refine am_get (v := .int (m.1 4)) dX7_byteAt_2 kGX7_236 (hmc221 (m := m) hm) rfl ?_
  refine am_icmp_ge dX7_byteAt_5 (by decide : ((5 : Nat) : Int) + (16) = ((21 : Nat) : Int)) (fun c1 => ?_) (fun c1 => ?_)
  · have hs := hs.1 c1
    refine am_iconst (v := (-1)) dX7_byteAt_21 (by decide) ?_
    rw [show (fX7_byteAt m z1) = (-1) from ifp c1 (rfl)]
    exact am_ireturn dX7_byteAt_22 rfl rfl ⟨rfl, rfl⟩
  · have hs := hs.2 c1
    refine am_aload_n dX7_byteAt_8 0 rfl ?_
    refine am_get (v := .ref (gz G + 229)) dX7_byteAt_9 kGX7_38 (hmc221 (m := m) hm) rfl ?_
    refine am_iload_n dX7_byteAt_12 1 rfl ?_
    obtain ⟨i2, hs⟩ := hs
    refine am_bald (f := (m.2.1 7)) dX7_byteAt_13 (hmc229 (m := m) hm) i2 ?_
    refine am_sipush (v := 255) dX7_byteAt_14 (by decide) ?_
    refine am_iand dX7_byteAt_17 ?_
    refine am_goto dX7_byteAt_18 (by decide : ((18 : Nat) : Int) + (4) = ((22 : Nat) : Int)) ?_
    rw [show (fX7_byteAt m z1) = (((m.2.1 7) z1.toNatClampNeg) &&& 255) from ifn c1 (rfl)]
    exact am_ireturn dX7_byteAt_22 rfl rfl ⟨rfl, rfl⟩

theorem dX7_advance_0 : decode cX7_advance 0 = .ok (.aload_n 0, 1) := by decide +kernel
theorem dX7_advance_1 : decode cX7_advance 1 = .ok (.aload_n 0, 1) := by decide +kernel
theorem dX7_advance_2 : decode cX7_advance 2 = .ok (.getfield 239, 3) := by decide +kernel
theorem dX7_advance_5 : decode cX7_advance 5 = .ok (.invokevirtual 242, 3) := by decide +kernel
theorem dX7_advance_8 : decode cX7_advance 8 = .ok (.bipush 32, 2) := by decide +kernel
theorem dX7_advance_10 : decode cX7_advance 10 = .ok (.if_icmp .eq 16, 3) := by decide +kernel
theorem dX7_advance_13 : decode cX7_advance 13 = .ok (.aload_n 0, 1) := by decide +kernel
theorem dX7_advance_14 : decode cX7_advance 14 = .ok (.aload_n 0, 1) := by decide +kernel
theorem dX7_advance_15 : decode cX7_advance 15 = .ok (.getfield 239, 3) := by decide +kernel
theorem dX7_advance_18 : decode cX7_advance 18 = .ok (.invokevirtual 242, 3) := by decide +kernel
theorem dX7_advance_21 : decode cX7_advance 21 = .ok (.bipush 10, 2) := by decide +kernel
theorem dX7_advance_23 : decode cX7_advance 23 = .ok (.if_icmp .ne 16, 3) := by decide +kernel
theorem dX7_advance_26 : decode cX7_advance 26 = .ok (.aload_n 0, 1) := by decide +kernel
theorem dX7_advance_27 : decode cX7_advance 27 = .ok (.dup, 1) := by decide +kernel
theorem dX7_advance_28 : decode cX7_advance 28 = .ok (.getfield 239, 3) := by decide +kernel
theorem dX7_advance_31 : decode cX7_advance 31 = .ok (.iconst 1, 1) := by decide +kernel
theorem dX7_advance_32 : decode cX7_advance 32 = .ok (.iadd, 1) := by decide +kernel
theorem dX7_advance_33 : decode cX7_advance 33 = .ok (.putfield 239, 3) := by decide +kernel
theorem dX7_advance_36 : decode cX7_advance 36 = .ok (.goto (-36), 3) := by decide +kernel
theorem dX7_advance_39 : decode cX7_advance 39 = .ok (.aload_n 0, 1) := by decide +kernel
theorem dX7_advance_40 : decode cX7_advance 40 = .ok (.aload_n 0, 1) := by decide +kernel
theorem dX7_advance_41 : decode cX7_advance 41 = .ok (.getfield 239, 3) := by decide +kernel
theorem dX7_advance_44 : decode cX7_advance 44 = .ok (.putfield 233, 3) := by decide +kernel
theorem dX7_advance_47 : decode cX7_advance 47 = .ok (.aload_n 0, 1) := by decide +kernel
theorem dX7_advance_48 : decode cX7_advance 48 = .ok (.aload_n 0, 1) := by decide +kernel
theorem dX7_advance_49 : decode cX7_advance 49 = .ok (.getfield 239, 3) := by decide +kernel
theorem dX7_advance_52 : decode cX7_advance 52 = .ok (.invokevirtual 242, 3) := by decide +kernel
theorem dX7_advance_55 : decode cX7_advance 55 = .ok (.istore_n 1, 1) := by decide +kernel
theorem dX7_advance_56 : decode cX7_advance 56 = .ok (.iload_n 1, 1) := by decide +kernel
theorem dX7_advance_57 : decode cX7_advance 57 = .ok (.iconst (-1), 1) := by decide +kernel
theorem dX7_advance_58 : decode cX7_advance 58 = .ok (.if_icmp .ne 11, 3) := by decide +kernel
theorem dX7_advance_61 : decode cX7_advance 61 = .ok (.aload_n 0, 1) := by decide +kernel
theorem dX7_advance_62 : decode cX7_advance 62 = .ok (.iconst 0, 1) := by decide +kernel
theorem dX7_advance_63 : decode cX7_advance 63 = .ok (.putfield 245, 3) := by decide +kernel
theorem dX7_advance_66 : decode cX7_advance 66 = .ok (.goto 169, 3) := by decide +kernel
theorem dX7_advance_69 : decode cX7_advance 69 = .ok (.iload_n 1, 1) := by decide +kernel
theorem dX7_advance_70 : decode cX7_advance 70 = .ok (.i2l, 1) := by decide +kernel
theorem dX7_advance_71 : decode cX7_advance 71 = .ok (.ldc2_w 248, 3) := by decide +kernel
theorem dX7_advance_74 : decode cX7_advance 74 = .ok (.ldc2_w 250, 3) := by decide +kernel
theorem dX7_advance_77 : decode cX7_advance 77 = .ok (.invokestatic 56, 3) := by decide +kernel
theorem dX7_advance_80 : decode cX7_advance 80 = .ok (.ifCond .eq 45, 3) := by decide +kernel
theorem dX7_advance_83 : decode cX7_advance 83 = .ok (.aload_n 0, 1) := by decide +kernel
theorem dX7_advance_84 : decode cX7_advance 84 = .ok (.aload_n 0, 1) := by decide +kernel
theorem dX7_advance_85 : decode cX7_advance 85 = .ok (.getfield 239, 3) := by decide +kernel
theorem dX7_advance_88 : decode cX7_advance 88 = .ok (.invokevirtual 242, 3) := by decide +kernel
theorem dX7_advance_91 : decode cX7_advance 91 = .ok (.i2l, 1) := by decide +kernel
theorem dX7_advance_92 : decode cX7_advance 92 = .ok (.ldc2_w 248, 3) := by decide +kernel
theorem dX7_advance_95 : decode cX7_advance 95 = .ok (.ldc2_w 250, 3) := by decide +kernel
theorem dX7_advance_98 : decode cX7_advance 98 = .ok (.invokestatic 56, 3) := by decide +kernel
theorem dX7_advance_101 : decode cX7_advance 101 = .ok (.ifCond .eq 16, 3) := by decide +kernel
theorem dX7_advance_104 : decode cX7_advance 104 = .ok (.aload_n 0, 1) := by decide +kernel
theorem dX7_advance_105 : decode cX7_advance 105 = .ok (.dup, 1) := by decide +kernel
theorem dX7_advance_106 : decode cX7_advance 106 = .ok (.getfield 239, 3) := by decide +kernel
theorem dX7_advance_109 : decode cX7_advance 109 = .ok (.iconst 1, 1) := by decide +kernel
theorem dX7_advance_110 : decode cX7_advance 110 = .ok (.iadd, 1) := by decide +kernel
theorem dX7_advance_111 : decode cX7_advance 111 = .ok (.putfield 239, 3) := by decide +kernel
theorem dX7_advance_114 : decode cX7_advance 114 = .ok (.goto (-31), 3) := by decide +kernel
theorem dX7_advance_117 : decode cX7_advance 117 = .ok (.aload_n 0, 1) := by decide +kernel
theorem dX7_advance_118 : decode cX7_advance 118 = .ok (.iconst 1, 1) := by decide +kernel
theorem dX7_advance_119 : decode cX7_advance 119 = .ok (.putfield 245, 3) := by decide +kernel
theorem dX7_advance_122 : decode cX7_advance 122 = .ok (.goto 113, 3) := by decide +kernel
theorem dX7_advance_125 : decode cX7_advance 125 = .ok (.iload_n 1, 1) := by decide +kernel
theorem dX7_advance_126 : decode cX7_advance 126 = .ok (.i2l, 1) := by decide +kernel
theorem dX7_advance_127 : decode cX7_advance 127 = .ok (.ldc2_w 252, 3) := by decide +kernel
theorem dX7_advance_130 : decode cX7_advance 130 = .ok (.ldc2_w 254, 3) := by decide +kernel
theorem dX7_advance_133 : decode cX7_advance 133 = .ok (.invokestatic 56, 3) := by decide +kernel
theorem dX7_advance_136 : decode cX7_advance 136 = .ok (.ifCond .eq 79, 3) := by decide +kernel
theorem dX7_advance_139 : decode cX7_advance 139 = .ok (.aload_n 0, 1) := by decide +kernel
theorem dX7_advance_140 : decode cX7_advance 140 = .ok (.iconst 0, 1) := by decide +kernel
theorem dX7_advance_141 : decode cX7_advance 141 = .ok (.putfield 256, 3) := by decide +kernel
theorem dX7_advance_144 : decode cX7_advance 144 = .ok (.aload_n 0, 1) := by decide +kernel
theorem dX7_advance_145 : decode cX7_advance 145 = .ok (.aload_n 0, 1) := by decide +kernel
theorem dX7_advance_146 : decode cX7_advance 146 = .ok (.getfield 239, 3) := by decide +kernel
theorem dX7_advance_149 : decode cX7_advance 149 = .ok (.invokevirtual 242, 3) := by decide +kernel
theorem dX7_advance_152 : decode cX7_advance 152 = .ok (.i2l, 1) := by decide +kernel
theorem dX7_advance_153 : decode cX7_advance 153 = .ok (.ldc2_w 252, 3) := by decide +kernel
theorem dX7_advance_156 : decode cX7_advance 156 = .ok (.ldc2_w 254, 3) := by decide +kernel
theorem dX7_advance_159 : decode cX7_advance 159 = .ok (.invokestatic 56, 3) := by decide +kernel
theorem dX7_advance_162 : decode cX7_advance 162 = .ok (.ifCond .eq 45, 3) := by decide +kernel
theorem dX7_advance_165 : decode cX7_advance 165 = .ok (.aload_n 0, 1) := by decide +kernel
theorem dX7_advance_166 : decode cX7_advance 166 = .ok (.ldc_w 259, 3) := by decide +kernel
theorem dX7_advance_169 : decode cX7_advance 169 = .ok (.bipush 10, 2) := by decide +kernel
theorem dX7_advance_171 : decode cX7_advance 171 = .ok (.aload_n 0, 1) := by decide +kernel
theorem dX7_advance_172 : decode cX7_advance 172 = .ok (.getfield 256, 3) := by decide +kernel
theorem dX7_advance_175 : decode cX7_advance 175 = .ok (.imul, 1) := by decide +kernel
theorem dX7_advance_176 : decode cX7_advance 176 = .ok (.aload_n 0, 1) := by decide +kernel
theorem dX7_advance_177 : decode cX7_advance 177 = .ok (.aload_n 0, 1) := by decide +kernel
theorem dX7_advance_178 : decode cX7_advance 178 = .ok (.getfield 239, 3) := by decide +kernel
theorem dX7_advance_181 : decode cX7_advance 181 = .ok (.invokevirtual 242, 3) := by decide +kernel
theorem dX7_advance_184 : decode cX7_advance 184 = .ok (.iadd, 1) := by decide +kernel
theorem dX7_advance_185 : decode cX7_advance 185 = .ok (.bipush 48, 2) := by decide +kernel
theorem dX7_advance_187 : decode cX7_advance 187 = .ok (.isub, 1) := by decide +kernel
theorem dX7_advance_188 : decode cX7_advance 188 = .ok (.invokestatic 127, 3) := by decide +kernel
theorem dX7_advance_191 : decode cX7_advance 191 = .ok (.putfield 256, 3) := by decide +kernel
theorem dX7_advance_194 : decode cX7_advance 194 = .ok (.aload_n 0, 1) := by decide +kernel
theorem dX7_advance_195 : decode cX7_advance 195 = .ok (.dup, 1) := by decide +kernel
theorem dX7_advance_196 : decode cX7_advance 196 = .ok (.getfield 239, 3) := by decide +kernel
theorem dX7_advance_199 : decode cX7_advance 199 = .ok (.iconst 1, 1) := by decide +kernel
theorem dX7_advance_200 : decode cX7_advance 200 = .ok (.iadd, 1) := by decide +kernel
theorem dX7_advance_201 : decode cX7_advance 201 = .ok (.putfield 239, 3) := by decide +kernel
theorem dX7_advance_204 : decode cX7_advance 204 = .ok (.goto (-60), 3) := by decide +kernel
theorem dX7_advance_207 : decode cX7_advance 207 = .ok (.aload_n 0, 1) := by decide +kernel
theorem dX7_advance_208 : decode cX7_advance 208 = .ok (.iconst 2, 1) := by decide +kernel
theorem dX7_advance_209 : decode cX7_advance 209 = .ok (.putfield 245, 3) := by decide +kernel
theorem dX7_advance_212 : decode cX7_advance 212 = .ok (.goto 23, 3) := by decide +kernel
theorem dX7_advance_215 : decode cX7_advance 215 = .ok (.aload_n 0, 1) := by decide +kernel
theorem dX7_advance_216 : decode cX7_advance 216 = .ok (.iconst 3, 1) := by decide +kernel
theorem dX7_advance_217 : decode cX7_advance 217 = .ok (.putfield 245, 3) := by decide +kernel
theorem dX7_advance_220 : decode cX7_advance 220 = .ok (.aload_n 0, 1) := by decide +kernel
theorem dX7_advance_221 : decode cX7_advance 221 = .ok (.iload_n 1, 1) := by decide +kernel
theorem dX7_advance_222 : decode cX7_advance 222 = .ok (.putfield 256, 3) := by decide +kernel
theorem dX7_advance_225 : decode cX7_advance 225 = .ok (.aload_n 0, 1) := by decide +kernel
theorem dX7_advance_226 : decode cX7_advance 226 = .ok (.dup, 1) := by decide +kernel
theorem dX7_advance_227 : decode cX7_advance 227 = .ok (.getfield 239, 3) := by decide +kernel
theorem dX7_advance_230 : decode cX7_advance 230 = .ok (.iconst 1, 1) := by decide +kernel
theorem dX7_advance_231 : decode cX7_advance 231 = .ok (.iadd, 1) := by decide +kernel
theorem dX7_advance_232 : decode cX7_advance 232 = .ok (.putfield 239, 3) := by decide +kernel
theorem dX7_advance_235 : decode cX7_advance 235 = .ok (.return_, 1) := by decide +kernel
def fX7_advance_0   : Nat → Md → Md
  | 0, y => y
  | fu + 1, y => (if (fX7_byteAt y (y.1 5)) = 32 then (fX7_advance_0    fu  (mS y 5 ((y.1 5) + 1))) else (if (fX7_byteAt y (y.1 5)) = 10 then (fX7_advance_0    fu  (mS y 5 ((y.1 5) + 1))) else y))
def sX7_advance_0   : Nat → Md → Prop
  | 0, _ => False
  | fu + 1, y => ((sX7_byteAt y (y.1 5)) ∧ (((fX7_byteAt y (y.1 5)) = 32 → (sX7_advance_0    fu  (mS y 5 ((y.1 5) + 1)))) ∧ (¬ (fX7_byteAt y (y.1 5)) = 32 → ((sX7_byteAt y (y.1 5)) ∧ (((fX7_byteAt y (y.1 5)) = 10 → (sX7_advance_0    fu  (mS y 5 ((y.1 5) + 1)))) ∧ (¬ (fX7_byteAt y (y.1 5)) = 10 → True))))))
set_option maxRecDepth 20000 in
theorem wX7_advance_0 {l : Launch} {G : GM} {K : Nat → Option va_E}    {Q : Option Value → List va_E → Prop} : ∀ (fu : Nat)  (y : Md) (hs : sX7_advance_0    fu  y) {h : List va_E} (gy : HM G K h y) (kx : ∀ (h1 : List va_E) (r : Md), (fX7_advance_0    fu  y) = r → HM G K h1 r → Tr l G mX7_advance 1 0 0 39 [(0, .ref (gz G + 221))] [] h1 Q), Tr l G mX7_advance 1 0 0 0 [(0, .ref (gz G + 221))] [] h Q := by
  intro fu
  induction fu with
  | zero => intro  y hs; intros; exact (show False from hs).elim
  | succ fu ih =>
    intro  y  hs  h gy  kx
    rw [sX7_advance_0] at hs
    refine am_aload_n dX7_advance_0 0 rfl ?_
    refine am_aload_n dX7_advance_1 0 rfl ?_
    refine am_get (v := .int (y.1 5)) dX7_advance_2 kGX7_239 (hmc221 (m := y) gy) rfl ?_
    obtain ⟨i1, hs⟩ := hs
    refine am_callV (As := [.int (y.1 5)]) (rest := []) dX7_advance_5 kMX7_242 rfl (hmc221 (m := y) gy) rfl rfl (Nat.le_of_ble_eq_true rfl) (d2 := 0) (by decide) (k2 := 0) (Nat.zero_le _) (u2 := 0) (Nat.zero_le _) (Nat.le_of_ble_eq_true rfl) (ctX7_byteAt (m := y) gy (y.1 5) i1) (fun v2 h3 q4 => ?_)
    obtain ⟨rfl, rfl⟩ := q4
    refine am_bipush (v := 32) dX7_advance_8 (by decide) ?_
    refine am_icmp_eq dX7_advance_10 (by decide : ((10 : Nat) : Int) + (16) = ((26 : Nat) : Int)) (fun c5 => ?_) (fun c5 => ?_)
    · have hs := hs.1 c5
      refine am_aload_n dX7_advance_26 0 rfl ?_
      refine am_dup dX7_advance_27 rfl ?_
      refine am_get (v := .int (y.1 5)) dX7_advance_28 kGX7_239 (hmc221 (m := y) gy) rfl ?_
      refine am_iconst (v := 1) dX7_advance_31 (by decide) ?_
      refine am_iadd dX7_advance_32 ?_
      refine am_put dX7_advance_33 kFX7_239 (hmc221 (m := y) gy) (Nat.le_of_ble_eq_true rfl) rfl rfl ?_
      have w6 := hmS5 gy ((y.1 5) + 1)
      refine am_goto dX7_advance_36 (by decide : ((36 : Nat) : Int) + (-36) = ((0 : Nat) : Int)) ?_
      exact ih  (mS y 5 ((y.1 5) + 1))  hs w6  (fun h1 r e => kx h1 r (Eq.trans (ifp c5 (rfl)) e))
    · have hs := hs.2 c5
      refine am_aload_n dX7_advance_13 0 rfl ?_
      refine am_aload_n dX7_advance_14 0 rfl ?_
      refine am_get (v := .int (y.1 5)) dX7_advance_15 kGX7_239 (hmc221 (m := y) gy) rfl ?_
      obtain ⟨i7, hs⟩ := hs
      refine am_callV (As := [.int (y.1 5)]) (rest := []) dX7_advance_18 kMX7_242 rfl (hmc221 (m := y) gy) rfl rfl (Nat.le_of_ble_eq_true rfl) (d2 := 0) (by decide) (k2 := 0) (Nat.zero_le _) (u2 := 0) (Nat.zero_le _) (Nat.le_of_ble_eq_true rfl) (ctX7_byteAt (m := y) gy (y.1 5) i7) (fun v8 h9 q10 => ?_)
      obtain ⟨rfl, rfl⟩ := q10
      refine am_bipush (v := 10) dX7_advance_21 (by decide) ?_
      refine am_icmp_ne dX7_advance_23 (by decide : ((23 : Nat) : Int) + (16) = ((39 : Nat) : Int)) (fun c11 => ?_) (fun c11 => ?_)
      · have hs := hs.2 c11
        exact kx _ _ (ifn c5 (ifn c11 (rfl))) gy 
      · have hs := hs.1 c11
        refine am_aload_n dX7_advance_26 0 rfl ?_
        refine am_dup dX7_advance_27 rfl ?_
        refine am_get (v := .int (y.1 5)) dX7_advance_28 kGX7_239 (hmc221 (m := y) gy) rfl ?_
        refine am_iconst (v := 1) dX7_advance_31 (by decide) ?_
        refine am_iadd dX7_advance_32 ?_
        refine am_put dX7_advance_33 kFX7_239 (hmc221 (m := y) gy) (Nat.le_of_ble_eq_true rfl) rfl rfl ?_
        have w12 := hmS5 gy ((y.1 5) + 1)
        refine am_goto dX7_advance_36 (by decide : ((36 : Nat) : Int) + (-36) = ((0 : Nat) : Int)) ?_
        exact ih  (mS y 5 ((y.1 5) + 1))  hs w12  (fun h1 r e => kx h1 r (Eq.trans (ifn c5 (ifp c11 (rfl))) e))
def fX7_advance_144   : Nat → Md → Md
  | 0, y => y
  | fu + 1, y => (if (fX7_in ((fX7_byteAt y (y.1 5)).toInt64) 48 57) = 0 then y else (fX7_advance_144    fu  (mS (mS y 8 (imn 99999 ((((10 : Int32) * (y.1 8)) + (fX7_byteAt y (y.1 5))) - 48))) 5 ((y.1 5) + 1))))
def sX7_advance_144   : Nat → Md → Prop
  | 0, _ => False
  | fu + 1, y => ((sX7_byteAt y (y.1 5)) ∧ (((fX7_in ((fX7_byteAt y (y.1 5)).toInt64) 48 57) = 0 → True) ∧ (¬ (fX7_in ((fX7_byteAt y (y.1 5)).toInt64) 48 57) = 0 → ((sX7_byteAt y (y.1 5)) ∧ (sX7_advance_144    fu  (mS (mS y 8 (imn 99999 ((((10 : Int32) * (y.1 8)) + (fX7_byteAt y (y.1 5))) - 48))) 5 ((y.1 5) + 1)))))))
set_option maxRecDepth 20000 in
theorem wX7_advance_144 {l : Launch} {G : GM} {K : Nat → Option va_E}    {Q : Option Value → List va_E → Prop} : ∀ (fu : Nat)  (y : Md) (hs : sX7_advance_144    fu  y) {h : List va_E} (gy : HM G K h y) (kx : ∀ (h1 : List va_E) (r : Md), (fX7_advance_144    fu  y) = r → HM G K h1 r → Tr l G mX7_advance 1 0 0 207 [(0, .ref (gz G + 221))] [] h1 Q), Tr l G mX7_advance 1 0 0 144 [(0, .ref (gz G + 221))] [] h Q := by
  intro fu
  induction fu with
  | zero => intro  y hs; intros; exact (show False from hs).elim
  | succ fu ih =>
    intro  y  hs  h gy  kx
    rw [sX7_advance_144] at hs
    refine am_aload_n dX7_advance_144 0 rfl ?_
    refine am_aload_n dX7_advance_145 0 rfl ?_
    refine am_get (v := .int (y.1 5)) dX7_advance_146 kGX7_239 (hmc221 (m := y) gy) rfl ?_
    obtain ⟨i36, hs⟩ := hs
    refine am_callV (As := [.int (y.1 5)]) (rest := []) dX7_advance_149 kMX7_242 rfl (hmc221 (m := y) gy) rfl rfl (Nat.le_of_ble_eq_true rfl) (d2 := 0) (by decide) (k2 := 0) (Nat.zero_le _) (u2 := 0) (Nat.zero_le _) (Nat.le_of_ble_eq_true rfl) (ctX7_byteAt (m := y) gy (y.1 5) i36) (fun v37 h38 q39 => ?_)
    obtain ⟨rfl, rfl⟩ := q39
    refine am_i2l (v := (fX7_byteAt y (y.1 5)).toInt64) dX7_advance_152 rfl ?_
    refine am_ldc2 (v := 48) dX7_advance_153 kKX7_252 ?_
    refine am_ldc2 (v := 57) dX7_advance_156 kKX7_254 ?_
    refine am_callS (As := [.long ((fX7_byteAt y (y.1 5)).toInt64), .long 48, .long 57]) (rest := []) dX7_advance_159 kMX7_56 rfl  rfl (Nat.le_of_ble_eq_true rfl) (d2 := 0) (by decide) (k2 := 0) (Nat.zero_le _) (u2 := 0) (Nat.zero_le _) (Nat.le_of_ble_eq_true rfl) (ctX7_in  ((fX7_byteAt y (y.1 5)).toInt64) 48 57 ) (fun v40 h41 q42 => ?_)
    obtain ⟨rfl, rfl⟩ := q42
    refine am_if_eq dX7_advance_162 (by decide : ((162 : Nat) : Int) + (45) = ((207 : Nat) : Int)) (fun c43 => ?_) (fun c43 => ?_)
    · have hs := hs.1 c43
      exact kx _ _ (ifp c43 (rfl)) gy 
    · have hs := hs.2 c43
      refine am_aload_n dX7_advance_165 0 rfl ?_
      refine am_ldc_w (v := 99999) dX7_advance_166 kKX7_259 ?_
      refine am_bipush (v := 10) dX7_advance_169 (by decide) ?_
      refine am_aload_n dX7_advance_171 0 rfl ?_
      refine am_get (v := .int (y.1 8)) dX7_advance_172 kGX7_256 (hmc221 (m := y) gy) rfl ?_
      refine am_imul dX7_advance_175 ?_
      refine am_aload_n dX7_advance_176 0 rfl ?_
      refine am_aload_n dX7_advance_177 0 rfl ?_
      refine am_get (v := .int (y.1 5)) dX7_advance_178 kGX7_239 (hmc221 (m := y) gy) rfl ?_
      obtain ⟨i44, hs⟩ := hs
      refine am_callV (As := [.int (y.1 5)]) (rest := [.int ((10 : Int32) * (y.1 8)), .int 99999, .ref (gz G + 221)]) dX7_advance_181 kMX7_242 rfl (hmc221 (m := y) gy) rfl rfl (Nat.le_of_ble_eq_true rfl) (d2 := 0) (by decide) (k2 := 0) (Nat.zero_le _) (u2 := 0) (Nat.zero_le _) (Nat.le_of_ble_eq_true rfl) (ctX7_byteAt (m := y) gy (y.1 5) i44) (fun v45 h46 q47 => ?_)
      obtain ⟨rfl, rfl⟩ := q47
      refine am_iadd dX7_advance_184 ?_
      refine am_bipush (v := 48) dX7_advance_185 (by decide) ?_
      refine am_isub dX7_advance_187 ?_
      refine am_mmin dX7_advance_188 kXX7_127 (Nat.le_of_ble_eq_true rfl) (by decide) ?_
      refine am_put dX7_advance_191 kFX7_256 (hmc221 (m := y) gy) (Nat.le_of_ble_eq_true rfl) rfl rfl ?_
      have w48 := hmS8 gy (imn 99999 ((((10 : Int32) * (y.1 8)) + (fX7_byteAt y (y.1 5))) - 48))
      refine am_aload_n dX7_advance_194 0 rfl ?_
      refine am_dup dX7_advance_195 rfl ?_
      refine am_get (v := .int (y.1 5)) dX7_advance_196 kGX7_239 (hmc221 (m := (mS y 8 (imn 99999 ((((10 : Int32) * (y.1 8)) + (fX7_byteAt y (y.1 5))) - 48)))) w48) rfl ?_
      refine am_iconst (v := 1) dX7_advance_199 (by decide) ?_
      refine am_iadd dX7_advance_200 ?_
      refine am_put dX7_advance_201 kFX7_239 (hmc221 (m := (mS y 8 (imn 99999 ((((10 : Int32) * (y.1 8)) + (fX7_byteAt y (y.1 5))) - 48)))) w48) (Nat.le_of_ble_eq_true rfl) rfl rfl ?_
      have w49 := hmS5 w48 ((y.1 5) + 1)
      refine am_goto dX7_advance_204 (by decide : ((204 : Nat) : Int) + (-60) = ((144 : Nat) : Int)) ?_
      exact ih  (mS (mS y 8 (imn 99999 ((((10 : Int32) * (y.1 8)) + (fX7_byteAt y (y.1 5))) - 48))) 5 ((y.1 5) + 1))  hs w49  (fun h1 r e => kx h1 r (Eq.trans (ifn c43 (rfl)) e))
def fX7_advance_83   : Nat → Md → Md
  | 0, y => y
  | fu + 1, y => (if (fX7_in ((fX7_byteAt y (y.1 5)).toInt64) 97 122) = 0 then y else (fX7_advance_83    fu  (mS y 5 ((y.1 5) + 1))))
def sX7_advance_83   : Nat → Md → Prop
  | 0, _ => False
  | fu + 1, y => ((sX7_byteAt y (y.1 5)) ∧ (((fX7_in ((fX7_byteAt y (y.1 5)).toInt64) 97 122) = 0 → True) ∧ (¬ (fX7_in ((fX7_byteAt y (y.1 5)).toInt64) 97 122) = 0 → (sX7_advance_83    fu  (mS y 5 ((y.1 5) + 1))))))
set_option maxRecDepth 20000 in
theorem wX7_advance_83 {l : Launch} {G : GM} {K : Nat → Option va_E}    {Q : Option Value → List va_E → Prop} : ∀ (fu : Nat)  (y : Md) (hs : sX7_advance_83    fu  y) {h : List va_E} (gy : HM G K h y) (kx : ∀ (h1 : List va_E) (r : Md), (fX7_advance_83    fu  y) = r → HM G K h1 r → Tr l G mX7_advance 1 0 0 117 [(0, .ref (gz G + 221))] [] h1 Q), Tr l G mX7_advance 1 0 0 83 [(0, .ref (gz G + 221))] [] h Q := by
  intro fu
  induction fu with
  | zero => intro  y hs; intros; exact (show False from hs).elim
  | succ fu ih =>
    intro  y  hs  h gy  kx
    rw [sX7_advance_83] at hs
    refine am_aload_n dX7_advance_83 0 rfl ?_
    refine am_aload_n dX7_advance_84 0 rfl ?_
    refine am_get (v := .int (y.1 5)) dX7_advance_85 kGX7_239 (hmc221 (m := y) gy) rfl ?_
    obtain ⟨i56, hs⟩ := hs
    refine am_callV (As := [.int (y.1 5)]) (rest := []) dX7_advance_88 kMX7_242 rfl (hmc221 (m := y) gy) rfl rfl (Nat.le_of_ble_eq_true rfl) (d2 := 0) (by decide) (k2 := 0) (Nat.zero_le _) (u2 := 0) (Nat.zero_le _) (Nat.le_of_ble_eq_true rfl) (ctX7_byteAt (m := y) gy (y.1 5) i56) (fun v57 h58 q59 => ?_)
    obtain ⟨rfl, rfl⟩ := q59
    refine am_i2l (v := (fX7_byteAt y (y.1 5)).toInt64) dX7_advance_91 rfl ?_
    refine am_ldc2 (v := 97) dX7_advance_92 kKX7_248 ?_
    refine am_ldc2 (v := 122) dX7_advance_95 kKX7_250 ?_
    refine am_callS (As := [.long ((fX7_byteAt y (y.1 5)).toInt64), .long 97, .long 122]) (rest := []) dX7_advance_98 kMX7_56 rfl  rfl (Nat.le_of_ble_eq_true rfl) (d2 := 0) (by decide) (k2 := 0) (Nat.zero_le _) (u2 := 0) (Nat.zero_le _) (Nat.le_of_ble_eq_true rfl) (ctX7_in  ((fX7_byteAt y (y.1 5)).toInt64) 97 122 ) (fun v60 h61 q62 => ?_)
    obtain ⟨rfl, rfl⟩ := q62
    refine am_if_eq dX7_advance_101 (by decide : ((101 : Nat) : Int) + (16) = ((117 : Nat) : Int)) (fun c63 => ?_) (fun c63 => ?_)
    · have hs := hs.1 c63
      exact kx _ _ (ifp c63 (rfl)) gy 
    · have hs := hs.2 c63
      refine am_aload_n dX7_advance_104 0 rfl ?_
      refine am_dup dX7_advance_105 rfl ?_
      refine am_get (v := .int (y.1 5)) dX7_advance_106 kGX7_239 (hmc221 (m := y) gy) rfl ?_
      refine am_iconst (v := 1) dX7_advance_109 (by decide) ?_
      refine am_iadd dX7_advance_110 ?_
      refine am_put dX7_advance_111 kFX7_239 (hmc221 (m := y) gy) (Nat.le_of_ble_eq_true rfl) rfl rfl ?_
      have w64 := hmS5 gy ((y.1 5) + 1)
      refine am_goto dX7_advance_114 (by decide : ((114 : Nat) : Int) + (-31) = ((83 : Nat) : Int)) ?_
      exact ih  (mS y 5 ((y.1 5) + 1))  hs w64  (fun h1 r e => kx h1 r (Eq.trans (ifn c63 (rfl)) e))
def fX7_advance (m : Md)  : Md := (bnd (fX7_advance_0    1300  m) (fun r14 => (if (fX7_byteAt (mS r14 6 (r14.1 5)) (r14.1 5)) = (-1) then (mS (mS r14 6 (r14.1 5)) 7 0) else (if (fX7_in ((fX7_byteAt (mS r14 6 (r14.1 5)) (r14.1 5)).toInt64) 97 122) = 0 then (if (fX7_in ((fX7_byteAt (mS r14 6 (r14.1 5)) (r14.1 5)).toInt64) 48 57) = 0 then (mS (mS (mS (mS r14 6 (r14.1 5)) 7 3) 8 (fX7_byteAt (mS r14 6 (r14.1 5)) (r14.1 5))) 5 ((r14.1 5) + 1)) else (bnd (fX7_advance_144    1300  (mS (mS r14 6 (r14.1 5)) 8 0)) (fun r51 => (mS r51 7 2)))) else (bnd (fX7_advance_83    1300  (mS r14 6 (r14.1 5))) (fun r66 => (mS r66 7 1)))))))
def sX7_advance (m : Md)  : Prop := ((sX7_advance_0    1300  m) ∧ bnd (fX7_advance_0    1300  m) (fun r14 => ((sX7_byteAt (mS r14 6 (r14.1 5)) (r14.1 5)) ∧ (((fX7_byteAt (mS r14 6 (r14.1 5)) (r14.1 5)) = (-1) → True) ∧ (¬ (fX7_byteAt (mS r14 6 (r14.1 5)) (r14.1 5)) = (-1) → (((fX7_in ((fX7_byteAt (mS r14 6 (r14.1 5)) (r14.1 5)).toInt64) 97 122) = 0 → (((fX7_in ((fX7_byteAt (mS r14 6 (r14.1 5)) (r14.1 5)).toInt64) 48 57) = 0 → True) ∧ (¬ (fX7_in ((fX7_byteAt (mS r14 6 (r14.1 5)) (r14.1 5)).toInt64) 48 57) = 0 → ((sX7_advance_144    1300  (mS (mS r14 6 (r14.1 5)) 8 0)) ∧ bnd (fX7_advance_144    1300  (mS (mS r14 6 (r14.1 5)) 8 0)) (fun r51 => True))))) ∧ (¬ (fX7_in ((fX7_byteAt (mS r14 6 (r14.1 5)) (r14.1 5)).toInt64) 97 122) = 0 → ((sX7_advance_83    1300  (mS r14 6 (r14.1 5))) ∧ bnd (fX7_advance_83    1300  (mS r14 6 (r14.1 5))) (fun r66 => True)))))))))
set_option maxRecDepth 20000 in
theorem ctX7_advance {l : Launch} {G : GM} {K : Nat → Option va_E} {h : List va_E} {m : Md} (hm : HM G K h m)  (hs : sX7_advance m ) : Ct l G mX7_advance 1 0 0 [.ref (gz G + 221)] h (fun v h1 => ∃ r, (fX7_advance m ) = r ∧ v = none ∧ HM G K h1 r) := by
  show Tr l G mX7_advance 1 0 0 0 [(0, .ref (gz G + 221))] [] h _
  unfold sX7_advance at hs
  obtain ⟨i13, hs⟩ := hs
  refine wX7_advance_0    1300  m  i13 hm  (fun h16 r14 e15 w17  => ?_)
  have hs := bnd_p e15 hs
  refine am_aload_n dX7_advance_39 0 rfl ?_
  refine am_aload_n dX7_advance_40 0 rfl ?_
  refine am_get (v := .int (r14.1 5)) dX7_advance_41 kGX7_239 (hmc221 (m := r14) w17) rfl ?_
  refine am_put dX7_advance_44 kFX7_233 (hmc221 (m := r14) w17) (Nat.le_of_ble_eq_true rfl) rfl rfl ?_
  have w18 := hmS6 w17 (r14.1 5)
  refine am_aload_n dX7_advance_47 0 rfl ?_
  refine am_aload_n dX7_advance_48 0 rfl ?_
  refine am_get (v := .int (r14.1 5)) dX7_advance_49 kGX7_239 (hmc221 (m := (mS r14 6 (r14.1 5))) w18) rfl ?_
  obtain ⟨i19, hs⟩ := hs
  refine am_callV (As := [.int (r14.1 5)]) (rest := []) dX7_advance_52 kMX7_242 rfl (hmc221 (m := (mS r14 6 (r14.1 5))) w18) rfl rfl (Nat.le_of_ble_eq_true rfl) (d2 := 0) (by decide) (k2 := 0) (Nat.zero_le _) (u2 := 0) (Nat.zero_le _) (Nat.le_of_ble_eq_true rfl) (ctX7_byteAt (m := (mS r14 6 (r14.1 5))) w18 (r14.1 5) i19) (fun v20 h21 q22 => ?_)
  obtain ⟨rfl, rfl⟩ := q22
  refine am_istore_n dX7_advance_55 (by decide) (lv' := [(1, .int (fX7_byteAt (mS r14 6 (r14.1 5)) (r14.1 5))), (0, .ref (gz G + 221))]) rfl ?_
  refine am_iload_n dX7_advance_56 0 rfl ?_
  refine am_iconst (v := (-1)) dX7_advance_57 (by decide) ?_
  refine am_icmp_ne dX7_advance_58 (by decide : ((58 : Nat) : Int) + (11) = ((69 : Nat) : Int)) (fun c23 => ?_) (fun c23 => ?_)
  · have hs := hs.2 c23
    refine am_iload_n dX7_advance_69 0 rfl ?_
    refine am_i2l (v := (fX7_byteAt (mS r14 6 (r14.1 5)) (r14.1 5)).toInt64) dX7_advance_70 rfl ?_
    refine am_ldc2 (v := 97) dX7_advance_71 kKX7_248 ?_
    refine am_ldc2 (v := 122) dX7_advance_74 kKX7_250 ?_
    refine am_callS (As := [.long ((fX7_byteAt (mS r14 6 (r14.1 5)) (r14.1 5)).toInt64), .long 97, .long 122]) (rest := []) dX7_advance_77 kMX7_56 rfl  rfl (Nat.le_of_ble_eq_true rfl) (d2 := 0) (by decide) (k2 := 0) (Nat.zero_le _) (u2 := 0) (Nat.zero_le _) (Nat.le_of_ble_eq_true rfl) (ctX7_in  ((fX7_byteAt (mS r14 6 (r14.1 5)) (r14.1 5)).toInt64) 97 122 ) (fun v24 h25 q26 => ?_)
    obtain ⟨rfl, rfl⟩ := q26
    refine am_if_eq dX7_advance_80 (by decide : ((80 : Nat) : Int) + (45) = ((125 : Nat) : Int)) (fun c27 => ?_) (fun c27 => ?_)
    · have hs := hs.1 c27
      refine am_iload_n dX7_advance_125 0 rfl ?_
      refine am_i2l (v := (fX7_byteAt (mS r14 6 (r14.1 5)) (r14.1 5)).toInt64) dX7_advance_126 rfl ?_
      refine am_ldc2 (v := 48) dX7_advance_127 kKX7_252 ?_
      refine am_ldc2 (v := 57) dX7_advance_130 kKX7_254 ?_
      refine am_callS (As := [.long ((fX7_byteAt (mS r14 6 (r14.1 5)) (r14.1 5)).toInt64), .long 48, .long 57]) (rest := []) dX7_advance_133 kMX7_56 rfl  rfl (Nat.le_of_ble_eq_true rfl) (d2 := 0) (by decide) (k2 := 0) (Nat.zero_le _) (u2 := 0) (Nat.zero_le _) (Nat.le_of_ble_eq_true rfl) (ctX7_in  ((fX7_byteAt (mS r14 6 (r14.1 5)) (r14.1 5)).toInt64) 48 57 ) (fun v28 h29 q30 => ?_)
      obtain ⟨rfl, rfl⟩ := q30
      refine am_if_eq dX7_advance_136 (by decide : ((136 : Nat) : Int) + (79) = ((215 : Nat) : Int)) (fun c31 => ?_) (fun c31 => ?_)
      · have hs := hs.1 c31
        refine am_aload_n dX7_advance_215 1 rfl ?_
        refine am_iconst (v := 3) dX7_advance_216 (by decide) ?_
        refine am_put dX7_advance_217 kFX7_245 (hmc221 (m := (mS r14 6 (r14.1 5))) w18) (Nat.le_of_ble_eq_true rfl) rfl rfl ?_
        have w32 := hmS7 w18 3
        refine am_aload_n dX7_advance_220 1 rfl ?_
        refine am_iload_n dX7_advance_221 0 rfl ?_
        refine am_put dX7_advance_222 kFX7_256 (hmc221 (m := (mS (mS r14 6 (r14.1 5)) 7 3)) w32) (Nat.le_of_ble_eq_true rfl) rfl rfl ?_
        have w33 := hmS8 w32 (fX7_byteAt (mS r14 6 (r14.1 5)) (r14.1 5))
        refine am_aload_n dX7_advance_225 1 rfl ?_
        refine am_dup dX7_advance_226 rfl ?_
        refine am_get (v := .int (r14.1 5)) dX7_advance_227 kGX7_239 (hmc221 (m := (mS (mS (mS r14 6 (r14.1 5)) 7 3) 8 (fX7_byteAt (mS r14 6 (r14.1 5)) (r14.1 5)))) w33) rfl ?_
        refine am_iconst (v := 1) dX7_advance_230 (by decide) ?_
        refine am_iadd dX7_advance_231 ?_
        refine am_put dX7_advance_232 kFX7_239 (hmc221 (m := (mS (mS (mS r14 6 (r14.1 5)) 7 3) 8 (fX7_byteAt (mS r14 6 (r14.1 5)) (r14.1 5)))) w33) (Nat.le_of_ble_eq_true rfl) rfl rfl ?_
        have w34 := hmS5 w33 ((r14.1 5) + 1)
        exact am_return dX7_advance_235 rfl ⟨_, bnd_eq e15 (ifn c23 (ifp c27 (ifp c31 (rfl)))), rfl, w34⟩
      · have hs := hs.2 c31
        refine am_aload_n dX7_advance_139 1 rfl ?_
        refine am_iconst (v := 0) dX7_advance_140 (by decide) ?_
        refine am_put dX7_advance_141 kFX7_256 (hmc221 (m := (mS r14 6 (r14.1 5))) w18) (Nat.le_of_ble_eq_true rfl) rfl rfl ?_
        have w35 := hmS8 w18 0
        refine am_lv (lv' := [(0, .ref (gz G + 221))]) [1] rfl ?_
        obtain ⟨i50, hs⟩ := hs
        refine wX7_advance_144    1300  (mS (mS r14 6 (r14.1 5)) 8 0)  i50 w35  (fun h53 r51 e52 w54  => ?_)
        have hs := bnd_p e52 hs
        refine am_aload_n dX7_advance_207 0 rfl ?_
        refine am_iconst (v := 2) dX7_advance_208 (by decide) ?_
        refine am_put dX7_advance_209 kFX7_245 (hmc221 (m := r51) w54) (Nat.le_of_ble_eq_true rfl) rfl rfl ?_
        have w55 := hmS7 w54 2
        refine am_goto dX7_advance_212 (by decide : ((212 : Nat) : Int) + (23) = ((235 : Nat) : Int)) ?_
        exact am_return dX7_advance_235 rfl ⟨_, bnd_eq e15 (ifn c23 (ifp c27 (ifn c31 (bnd_eq e52 (rfl))))), rfl, w55⟩
    · have hs := hs.2 c27
      refine am_lv (lv' := [(0, .ref (gz G + 221))]) [1] rfl ?_
      obtain ⟨i65, hs⟩ := hs
      refine wX7_advance_83    1300  (mS r14 6 (r14.1 5))  i65 w18  (fun h68 r66 e67 w69  => ?_)
      have hs := bnd_p e67 hs
      refine am_aload_n dX7_advance_117 0 rfl ?_
      refine am_iconst (v := 1) dX7_advance_118 (by decide) ?_
      refine am_put dX7_advance_119 kFX7_245 (hmc221 (m := r66) w69) (Nat.le_of_ble_eq_true rfl) rfl rfl ?_
      have w70 := hmS7 w69 1
      refine am_goto dX7_advance_122 (by decide : ((122 : Nat) : Int) + (113) = ((235 : Nat) : Int)) ?_
      exact am_return dX7_advance_235 rfl ⟨_, bnd_eq e15 (ifn c23 (ifn c27 (bnd_eq e67 (rfl)))), rfl, w70⟩
  · have hs := hs.1 c23
    refine am_aload_n dX7_advance_61 1 rfl ?_
    refine am_iconst (v := 0) dX7_advance_62 (by decide) ?_
    refine am_put dX7_advance_63 kFX7_245 (hmc221 (m := (mS r14 6 (r14.1 5))) w18) (Nat.le_of_ble_eq_true rfl) rfl rfl ?_
    have w71 := hmS7 w18 0
    refine am_goto dX7_advance_66 (by decide : ((66 : Nat) : Int) + (169) = ((235 : Nat) : Int)) ?_
    exact am_return dX7_advance_235 rfl ⟨_, bnd_eq e15 (ifp c23 (rfl)), rfl, w71⟩

theorem dX7_goOn_0 : decode cX7_goOn 0 = .ok (.aload_n 0, 1) := by decide +kernel
theorem dX7_goOn_1 : decode cX7_goOn 1 = .ok (.invokevirtual 229, 3) := by decide +kernel
theorem dX7_goOn_4 : decode cX7_goOn 4 = .ok (.ifCond .eq 7, 3) := by decide +kernel
theorem dX7_goOn_7 : decode cX7_goOn 7 = .ok (.aload_n 0, 1) := by decide +kernel
theorem dX7_goOn_8 : decode cX7_goOn 8 = .ok (.invokevirtual 260, 3) := by decide +kernel
theorem dX7_goOn_11 : decode cX7_goOn 11 = .ok (.return_, 1) := by decide +kernel
def fX7_goOn (m : Md)  : Md := (if (fX7_good m ) = 0 then m else (bnd (fX7_advance m ) (fun r9 => r9)))
def sX7_goOn (m : Md)  : Prop := (((fX7_good m ) = 0 → True) ∧ (¬ (fX7_good m ) = 0 → ((sX7_advance m ) ∧ (bnd (fX7_advance m ) (fun r9 => True)))))
set_option maxRecDepth 20000 in
theorem ctX7_goOn {l : Launch} {G : GM} {K : Nat → Option va_E} {h : List va_E} {m : Md} (hm : HM G K h m)  (hs : sX7_goOn m ) : Ct l G mX7_goOn 2 0 0 [.ref (gz G + 221)] h (fun v h1 => ∃ r, (fX7_goOn m ) = r ∧ v = none ∧ HM G K h1 r) := by
  show Tr l G mX7_goOn 2 0 0 0 [(0, .ref (gz G + 221))] [] h _
  unfold sX7_goOn at hs
  refine am_aload_n dX7_goOn_0 0 rfl ?_
  refine am_callV (As := []) (rest := []) dX7_goOn_1 kMX7_229 rfl (hmc221 (m := m) hm) rfl rfl (Nat.le_of_ble_eq_true rfl) (d2 := 0) (by decide) (k2 := 0) (Nat.zero_le _) (u2 := 0) (Nat.zero_le _) (Nat.le_of_ble_eq_true rfl) (ctX7_good (m := m) hm  ) (fun v1 h2 q3 => ?_)
  obtain ⟨rfl, rfl⟩ := q3
  refine am_if_eq dX7_goOn_4 (by decide : ((4 : Nat) : Int) + (7) = ((11 : Nat) : Int)) (fun c4 => ?_) (fun c4 => ?_)
  · have hs := hs.1 c4
    exact am_return dX7_goOn_11 rfl ⟨_, ifp c4 (rfl), rfl, hm⟩
  · have hs := hs.2 c4
    refine am_aload_n dX7_goOn_7 0 rfl ?_
    obtain ⟨i5, hs⟩ := hs
    refine am_callV (As := []) (rest := []) dX7_goOn_8 kMX7_260 rfl (hmc221 (m := m) hm) rfl rfl (Nat.le_of_ble_eq_true rfl) (d2 := 1) (by decide) (k2 := 0) (Nat.zero_le _) (u2 := 0) (Nat.zero_le _) (Nat.le_of_ble_eq_true rfl) (ctX7_advance (m := m) hm  i5) (fun v6 h7 q8 => ?_)
    obtain ⟨r9, e10, rfl, w11⟩ := q8
    have hs := bnd_p e10 hs
    exact am_return dX7_goOn_11 rfl ⟨_, ifn c4 (bnd_eq e10 (rfl)), rfl, w11⟩

theorem dX7_isText_0 : decode cX7_isText 0 = .ok (.aload_n 0, 1) := by decide +kernel
theorem dX7_isText_1 : decode cX7_isText 1 = .ok (.invokevirtual 229, 3) := by decide +kernel
theorem dX7_isText_4 : decode cX7_isText 4 = .ok (.ifCond .eq 31, 3) := by decide +kernel
theorem dX7_isText_7 : decode cX7_isText 7 = .ok (.aload_n 0, 1) := by decide +kernel
theorem dX7_isText_8 : decode cX7_isText 8 = .ok (.getfield 245, 3) := by decide +kernel
theorem dX7_isText_11 : decode cX7_isText 11 = .ok (.iconst 1, 1) := by decide +kernel
theorem dX7_isText_12 : decode cX7_isText 12 = .ok (.if_icmp .ne 23, 3) := by decide +kernel
theorem dX7_isText_15 : decode cX7_isText 15 = .ok (.aload_n 0, 1) := by decide +kernel
theorem dX7_isText_16 : decode cX7_isText 16 = .ok (.getfield 239, 3) := by decide +kernel
theorem dX7_isText_19 : decode cX7_isText 19 = .ok (.aload_n 0, 1) := by decide +kernel
theorem dX7_isText_20 : decode cX7_isText 20 = .ok (.getfield 233, 3) := by decide +kernel
theorem dX7_isText_23 : decode cX7_isText 23 = .ok (.isub, 1) := by decide +kernel
theorem dX7_isText_24 : decode cX7_isText 24 = .ok (.aload_n 1, 1) := by decide +kernel
theorem dX7_isText_25 : decode cX7_isText 25 = .ok (.invokevirtual 263, 3) := by decide +kernel
theorem dX7_isText_28 : decode cX7_isText 28 = .ok (.if_icmp .ne 7, 3) := by decide +kernel
theorem dX7_isText_31 : decode cX7_isText 31 = .ok (.iconst 1, 1) := by decide +kernel
theorem dX7_isText_32 : decode cX7_isText 32 = .ok (.goto 4, 3) := by decide +kernel
theorem dX7_isText_35 : decode cX7_isText 35 = .ok (.iconst 0, 1) := by decide +kernel
theorem dX7_isText_36 : decode cX7_isText 36 = .ok (.istore_n 2, 1) := by decide +kernel
theorem dX7_isText_37 : decode cX7_isText 37 = .ok (.iconst 0, 1) := by decide +kernel
theorem dX7_isText_38 : decode cX7_isText 38 = .ok (.istore_n 3, 1) := by decide +kernel
theorem dX7_isText_39 : decode cX7_isText 39 = .ok (.iload_n 3, 1) := by decide +kernel
theorem dX7_isText_40 : decode cX7_isText 40 = .ok (.aload_n 1, 1) := by decide +kernel
theorem dX7_isText_41 : decode cX7_isText 41 = .ok (.invokevirtual 263, 3) := by decide +kernel
theorem dX7_isText_44 : decode cX7_isText 44 = .ok (.if_icmp .ge 38, 3) := by decide +kernel
theorem dX7_isText_47 : decode cX7_isText 47 = .ok (.iload_n 2, 1) := by decide +kernel
theorem dX7_isText_48 : decode cX7_isText 48 = .ok (.ifCond .eq 34, 3) := by decide +kernel
theorem dX7_isText_51 : decode cX7_isText 51 = .ok (.aload_n 0, 1) := by decide +kernel
theorem dX7_isText_52 : decode cX7_isText 52 = .ok (.getfield 38, 3) := by decide +kernel
theorem dX7_isText_55 : decode cX7_isText 55 = .ok (.aload_n 0, 1) := by decide +kernel
theorem dX7_isText_56 : decode cX7_isText 56 = .ok (.getfield 233, 3) := by decide +kernel
theorem dX7_isText_59 : decode cX7_isText 59 = .ok (.iload_n 3, 1) := by decide +kernel
theorem dX7_isText_60 : decode cX7_isText 60 = .ok (.iadd, 1) := by decide +kernel
theorem dX7_isText_61 : decode cX7_isText 61 = .ok (.baload, 1) := by decide +kernel
theorem dX7_isText_62 : decode cX7_isText 62 = .ok (.aload_n 1, 1) := by decide +kernel
theorem dX7_isText_63 : decode cX7_isText 63 = .ok (.iload_n 3, 1) := by decide +kernel
theorem dX7_isText_64 : decode cX7_isText 64 = .ok (.invokevirtual 268, 3) := by decide +kernel
theorem dX7_isText_67 : decode cX7_isText 67 = .ok (.if_icmp .ne 7, 3) := by decide +kernel
theorem dX7_isText_70 : decode cX7_isText 70 = .ok (.iconst 1, 1) := by decide +kernel
theorem dX7_isText_71 : decode cX7_isText 71 = .ok (.goto 4, 3) := by decide +kernel
theorem dX7_isText_74 : decode cX7_isText 74 = .ok (.iconst 0, 1) := by decide +kernel
theorem dX7_isText_75 : decode cX7_isText 75 = .ok (.istore_n 2, 1) := by decide +kernel
theorem dX7_isText_76 : decode cX7_isText 76 = .ok (.iinc 3 1, 3) := by decide +kernel
theorem dX7_isText_79 : decode cX7_isText 79 = .ok (.goto (-40), 3) := by decide +kernel
theorem dX7_isText_82 : decode cX7_isText 82 = .ok (.iload_n 2, 1) := by decide +kernel
theorem dX7_isText_83 : decode cX7_isText 83 = .ok (.ireturn, 1) := by decide +kernel
def fX7_isText_39 (q : String × Nat × String × List Int32)   (m : Md) : Nat → Int32 → Int32 → Int32 × Int32
  | 0, x3, x2 => (x3, x2)
  | fu + 1, x3, x2 => (if (nI q.2.2.2.length) ≤ x3 then (x3, x2) else (if x2 = 0 then (x3, x2) else (if ((m.2.1 7) ((m.1 6) + x3).toNatClampNeg) = (ichr ((q.2.2.2.getD x3.toNatClampNeg 0) &&& 255)) then (fX7_isText_39 q   m fu (x3 + 1) 1 ) else (fX7_isText_39 q   m fu (x3 + 1) 0 ))))
def sX7_isText_39 (q : String × Nat × String × List Int32)   (m : Md) : Nat → Int32 → Int32 → Prop
  | 0, _, _ => True
  | fu + 1, x3, x2 => (((nI q.2.2.2.length) ≤ x3 → True) ∧ (¬ (nI q.2.2.2.length) ≤ x3 → ((x2 = 0 → True) ∧ (¬ x2 = 0 → (vp_in ((m.1 6) + x3) 1200 ∧ (¬ x3 < 0 ∧ ((((m.2.1 7) ((m.1 6) + x3).toNatClampNeg) = (ichr ((q.2.2.2.getD x3.toNatClampNeg 0) &&& 255)) → (sX7_isText_39 q   m fu (x3 + 1) 1 )) ∧ (¬ ((m.2.1 7) ((m.1 6) + x3).toNatClampNeg) = (ichr ((q.2.2.2.getD x3.toNatClampNeg 0) &&& 255)) → (sX7_isText_39 q   m fu (x3 + 1) 0 )))))))))
set_option maxRecDepth 20000 in
theorem wX7_isText_39 {l : Launch} {G : GM} {K : Nat → Option va_E} {j : Nat} {q : String × Nat × String × List Int32} (hj : strTab[j]? = some q)    {h : List va_E} {m : Md} (hm : HM G K h m) {Q : Option Value → List va_E → Prop} : ∀ (fu : Nat) (x3 x2 : Int32) (iv : ivU (nI q.2.2.2.length) x3 fu) (hs : sX7_isText_39 q   m fu x3 x2 ) (kx : ∀ (r : Int32 × Int32), (fX7_isText_39 q   m fu x3 x2 ) = r → Tr l G mX7_isText 4 0 0 82 [(3, .int r.1), (2, .int r.2), (0, .ref (gz G + 221)), (1, .ref (gS G j))] [] h Q), Tr l G mX7_isText 4 0 0 39 [(3, .int x3), (2, .int x2), (0, .ref (gz G + 221)), (1, .ref (gS G j))] [] h Q := by
  intro fu
  induction fu with
  | zero => intro x3 x2 iv; intros; exact absurd iv ivU_0
  | succ fu ih =>
    intro x3 x2 iv hs    kx
    rw [sX7_isText_39] at hs
    refine am_iload_n dX7_isText_39 0 rfl ?_
    refine am_aload_n dX7_isText_40 3 rfl ?_
    refine am_callK (As := []) (rest := [.int x3]) dX7_isText_41 kMX7_263 rfl (q := q) hj rfl rfl (Nat.le_of_ble_eq_true rfl) (d2 := 1) (by decide) (k2 := 0) (Nat.zero_le _) (u2 := 0) (Nat.zero_le _) (Nat.le_of_ble_eq_true rfl) (ctJ0_length_8abf5 hj) (fun v5 h6 q7 => ?_)
    obtain ⟨rfl, rfl⟩ := q7
    refine am_icmp_ge dX7_isText_44 (by decide : ((44 : Nat) : Int) + (38) = ((82 : Nat) : Int)) (fun c8 => ?_) (fun c8 => ?_)
    · have hs := hs.1 c8
      exact kx _ (ifp c8 (rfl))
    · have hs := hs.2 c8
      refine am_iload_n dX7_isText_47 1 rfl ?_
      refine am_if_eq dX7_isText_48 (by decide : ((48 : Nat) : Int) + (34) = ((82 : Nat) : Int)) (fun c9 => ?_) (fun c9 => ?_)
      · have hs := hs.1 c9
        exact kx _ (ifn c8 (ifp c9 (rfl)))
      · have hs := hs.2 c9
        refine am_aload_n dX7_isText_51 2 rfl ?_
        refine am_get (v := .ref (gz G + 229)) dX7_isText_52 kGX7_38 (hmc221 (m := m) hm) rfl ?_
        refine am_aload_n dX7_isText_55 2 rfl ?_
        refine am_get (v := .int (m.1 6)) dX7_isText_56 kGX7_233 (hmc221 (m := m) hm) rfl ?_
        refine am_iload_n dX7_isText_59 0 rfl ?_
        refine am_iadd dX7_isText_60 ?_
        obtain ⟨i10, hs⟩ := hs
        refine am_bald (f := (m.2.1 7)) dX7_isText_61 (hmc229 (m := m) hm) i10 ?_
        refine am_aload_n dX7_isText_62 3 rfl ?_
        refine am_iload_n dX7_isText_63 0 rfl ?_
        obtain ⟨i11, hs⟩ := hs
        refine am_callK (As := [.int x3]) (rest := [.int ((m.2.1 7) ((m.1 6) + x3).toNatClampNeg)]) dX7_isText_64 kMX7_268 rfl (q := q) hj rfl rfl (Nat.le_of_ble_eq_true rfl) (d2 := 3) (by decide) (k2 := 0) (Nat.zero_le _) (u2 := 0) (Nat.zero_le _) (Nat.le_of_ble_eq_true rfl) (ctJ0_charAt_5068e hj i11 c8) (fun v12 h13 q14 => ?_)
        obtain ⟨rfl, rfl⟩ := q14
        refine am_icmp_ne dX7_isText_67 (by decide : ((67 : Nat) : Int) + (7) = ((74 : Nat) : Int)) (fun c15 => ?_) (fun c15 => ?_)
        · have hs := hs.2 c15
          refine am_iconst (v := 0) dX7_isText_74 (by decide) ?_
          refine am_istore_n dX7_isText_75 (by decide) (lv' := [(2, .int 0), (3, .int x3), (0, .ref (gz G + 221)), (1, .ref (gS G j))]) rfl ?_
          refine am_iinc (v := (x3 + 1)) dX7_isText_76 1 rfl rfl (by decide) (lv' := [(3, .int (x3 + 1)), (2, .int 0), (0, .ref (gz G + 221)), (1, .ref (gS G j))]) rfl ?_
          refine am_goto dX7_isText_79 (by decide : ((79 : Nat) : Int) + (-40) = ((39 : Nat) : Int)) ?_
          exact ih (x3 + 1) 0 (ivU_s c8 iv) hs (fun r e => kx r (Eq.trans (ifn c8 (ifn c9 (ifn c15 (rfl)))) e))
        · have hs := hs.1 c15
          refine am_iconst (v := 1) dX7_isText_70 (by decide) ?_
          refine am_goto dX7_isText_71 (by decide : ((71 : Nat) : Int) + (4) = ((75 : Nat) : Int)) ?_
          refine am_istore_n dX7_isText_75 (by decide) (lv' := [(2, .int 1), (3, .int x3), (0, .ref (gz G + 221)), (1, .ref (gS G j))]) rfl ?_
          refine am_iinc (v := (x3 + 1)) dX7_isText_76 1 rfl rfl (by decide) (lv' := [(3, .int (x3 + 1)), (2, .int 1), (0, .ref (gz G + 221)), (1, .ref (gS G j))]) rfl ?_
          refine am_goto dX7_isText_79 (by decide : ((79 : Nat) : Int) + (-40) = ((39 : Nat) : Int)) ?_
          exact ih (x3 + 1) 1 (ivU_s c8 iv) hs (fun r e => kx r (Eq.trans (ifn c8 (ifn c9 (ifp c15 (rfl)))) e))
def fX7_isText (m : Md) (q : String × Nat × String × List Int32)  : Int32 := (if (fX7_good m ) = 0 then (bnd (fX7_isText_39 q   m (fuU (nI q.2.2.2.length) 0) 0 0 ) (fun r17 => r17.2)) else (if (m.1 7) = 1 then (if ((m.1 5) - (m.1 6)) = (nI q.2.2.2.length) then (bnd (fX7_isText_39 q   m (fuU (nI q.2.2.2.length) 0) 0 1 ) (fun r34 => r34.2)) else (bnd (fX7_isText_39 q   m (fuU (nI q.2.2.2.length) 0) 0 0 ) (fun r30 => r30.2))) else (bnd (fX7_isText_39 q   m (fuU (nI q.2.2.2.length) 0) 0 0 ) (fun r22 => r22.2))))
def sX7_isText (m : Md) (q : String × Nat × String × List Int32)  : Prop := (((fX7_good m ) = 0 → ((sX7_isText_39 q   m (fuU (nI q.2.2.2.length) 0) 0 0 ) ∧ bnd (fX7_isText_39 q   m (fuU (nI q.2.2.2.length) 0) 0 0 ) (fun r17 => (narrow .boolean (.int r17.2) = .int r17.2 ∧ True)))) ∧ (¬ (fX7_good m ) = 0 → (((m.1 7) = 1 → ((((m.1 5) - (m.1 6)) = (nI q.2.2.2.length) → ((sX7_isText_39 q   m (fuU (nI q.2.2.2.length) 0) 0 1 ) ∧ bnd (fX7_isText_39 q   m (fuU (nI q.2.2.2.length) 0) 0 1 ) (fun r34 => (narrow .boolean (.int r34.2) = .int r34.2 ∧ True)))) ∧ (¬ ((m.1 5) - (m.1 6)) = (nI q.2.2.2.length) → ((sX7_isText_39 q   m (fuU (nI q.2.2.2.length) 0) 0 0 ) ∧ bnd (fX7_isText_39 q   m (fuU (nI q.2.2.2.length) 0) 0 0 ) (fun r30 => (narrow .boolean (.int r30.2) = .int r30.2 ∧ True)))))) ∧ (¬ (m.1 7) = 1 → ((sX7_isText_39 q   m (fuU (nI q.2.2.2.length) 0) 0 0 ) ∧ bnd (fX7_isText_39 q   m (fuU (nI q.2.2.2.length) 0) 0 0 ) (fun r22 => (narrow .boolean (.int r22.2) = .int r22.2 ∧ True)))))))
set_option maxRecDepth 20000 in
theorem ctX7_isText {l : Launch} {G : GM} {K : Nat → Option va_E} {h : List va_E} {m : Md} (hm : HM G K h m) {j : Nat} {q : String × Nat × String × List Int32} (hj : strTab[j]? = some q)  (hs : sX7_isText m q ) : Ct l G mX7_isText 4 0 0 [.ref (gz G + 221), .ref (gS G j)] h (fun v h1 => v = some (.int (fX7_isText m q )) ∧ h1 = h) := by
  show Tr l G mX7_isText 4 0 0 0 [(0, .ref (gz G + 221)), (1, .ref (gS G j))] [] h _
  unfold sX7_isText at hs
  refine am_aload_n dX7_isText_0 0 rfl ?_
  refine am_callV (As := []) (rest := []) dX7_isText_1 kMX7_229 rfl (hmc221 (m := m) hm) rfl rfl (Nat.le_of_ble_eq_true rfl) (d2 := 0) (by decide) (k2 := 0) (Nat.zero_le _) (u2 := 0) (Nat.zero_le _) (Nat.le_of_ble_eq_true rfl) (ctX7_good (m := m) hm  ) (fun v1 h2 q3 => ?_)
  obtain ⟨rfl, rfl⟩ := q3
  refine am_if_eq dX7_isText_4 (by decide : ((4 : Nat) : Int) + (31) = ((35 : Nat) : Int)) (fun c4 => ?_) (fun c4 => ?_)
  · have hs := hs.1 c4
    refine am_iconst (v := 0) dX7_isText_35 (by decide) ?_
    refine am_istore_n dX7_isText_36 (by decide) (lv' := [(2, .int 0), (0, .ref (gz G + 221)), (1, .ref (gS G j))]) rfl ?_
    refine am_iconst (v := 0) dX7_isText_37 (by decide) ?_
    refine am_istore_n dX7_isText_38 (by decide) (lv' := [(3, .int 0), (2, .int 0), (0, .ref (gz G + 221)), (1, .ref (gS G j))]) rfl ?_
    obtain ⟨i16, hs⟩ := hs
    refine wX7_isText_39 hj    hm (fuU (nI q.2.2.2.length) 0) 0 0 ivU_i i16 (fun r17 e18 => ?_)
    have hs := bnd_p e18 hs
    refine am_iload_n dX7_isText_82 1 rfl ?_
    obtain ⟨i19, hs⟩ := hs
    rw [show (fX7_isText m q ) = r17.2 from ifp c4 (bnd_eq e18 (rfl))]
    exact am_ireturn dX7_isText_83 rfl i19 ⟨rfl, rfl⟩
  · have hs := hs.2 c4
    refine am_aload_n dX7_isText_7 0 rfl ?_
    refine am_get (v := .int (m.1 7)) dX7_isText_8 kGX7_245 (hmc221 (m := m) hm) rfl ?_
    refine am_iconst (v := 1) dX7_isText_11 (by decide) ?_
    refine am_icmp_ne dX7_isText_12 (by decide : ((12 : Nat) : Int) + (23) = ((35 : Nat) : Int)) (fun c20 => ?_) (fun c20 => ?_)
    · have hs := hs.2 c20
      refine am_iconst (v := 0) dX7_isText_35 (by decide) ?_
      refine am_istore_n dX7_isText_36 (by decide) (lv' := [(2, .int 0), (0, .ref (gz G + 221)), (1, .ref (gS G j))]) rfl ?_
      refine am_iconst (v := 0) dX7_isText_37 (by decide) ?_
      refine am_istore_n dX7_isText_38 (by decide) (lv' := [(3, .int 0), (2, .int 0), (0, .ref (gz G + 221)), (1, .ref (gS G j))]) rfl ?_
      obtain ⟨i21, hs⟩ := hs
      refine wX7_isText_39 hj    hm (fuU (nI q.2.2.2.length) 0) 0 0 ivU_i i21 (fun r22 e23 => ?_)
      have hs := bnd_p e23 hs
      refine am_iload_n dX7_isText_82 1 rfl ?_
      obtain ⟨i24, hs⟩ := hs
      rw [show (fX7_isText m q ) = r22.2 from ifn c4 (ifn c20 (bnd_eq e23 (rfl)))]
      exact am_ireturn dX7_isText_83 rfl i24 ⟨rfl, rfl⟩
    · have hs := hs.1 c20
      refine am_aload_n dX7_isText_15 0 rfl ?_
      refine am_get (v := .int (m.1 5)) dX7_isText_16 kGX7_239 (hmc221 (m := m) hm) rfl ?_
      refine am_aload_n dX7_isText_19 0 rfl ?_
      refine am_get (v := .int (m.1 6)) dX7_isText_20 kGX7_233 (hmc221 (m := m) hm) rfl ?_
      refine am_isub dX7_isText_23 ?_
      refine am_aload_n dX7_isText_24 1 rfl ?_
      refine am_callK (As := []) (rest := [.int ((m.1 5) - (m.1 6))]) dX7_isText_25 kMX7_263 rfl (q := q) hj rfl rfl (Nat.le_of_ble_eq_true rfl) (d2 := 1) (by decide) (k2 := 0) (Nat.zero_le _) (u2 := 0) (Nat.zero_le _) (Nat.le_of_ble_eq_true rfl) (ctJ0_length_8abf5 hj) (fun v25 h26 q27 => ?_)
      obtain ⟨rfl, rfl⟩ := q27
      refine am_icmp_ne dX7_isText_28 (by decide : ((28 : Nat) : Int) + (7) = ((35 : Nat) : Int)) (fun c28 => ?_) (fun c28 => ?_)
      · have hs := hs.2 c28
        refine am_iconst (v := 0) dX7_isText_35 (by decide) ?_
        refine am_istore_n dX7_isText_36 (by decide) (lv' := [(2, .int 0), (0, .ref (gz G + 221)), (1, .ref (gS G j))]) rfl ?_
        refine am_iconst (v := 0) dX7_isText_37 (by decide) ?_
        refine am_istore_n dX7_isText_38 (by decide) (lv' := [(3, .int 0), (2, .int 0), (0, .ref (gz G + 221)), (1, .ref (gS G j))]) rfl ?_
        obtain ⟨i29, hs⟩ := hs
        refine wX7_isText_39 hj    hm (fuU (nI q.2.2.2.length) 0) 0 0 ivU_i i29 (fun r30 e31 => ?_)
        have hs := bnd_p e31 hs
        refine am_iload_n dX7_isText_82 1 rfl ?_
        obtain ⟨i32, hs⟩ := hs
        rw [show (fX7_isText m q ) = r30.2 from ifn c4 (ifp c20 (ifn c28 (bnd_eq e31 (rfl))))]
        exact am_ireturn dX7_isText_83 rfl i32 ⟨rfl, rfl⟩
      · have hs := hs.1 c28
        refine am_iconst (v := 1) dX7_isText_31 (by decide) ?_
        refine am_goto dX7_isText_32 (by decide : ((32 : Nat) : Int) + (4) = ((36 : Nat) : Int)) ?_
        refine am_istore_n dX7_isText_36 (by decide) (lv' := [(2, .int 1), (0, .ref (gz G + 221)), (1, .ref (gS G j))]) rfl ?_
        refine am_iconst (v := 0) dX7_isText_37 (by decide) ?_
        refine am_istore_n dX7_isText_38 (by decide) (lv' := [(3, .int 0), (2, .int 1), (0, .ref (gz G + 221)), (1, .ref (gS G j))]) rfl ?_
        obtain ⟨i33, hs⟩ := hs
        refine wX7_isText_39 hj    hm (fuU (nI q.2.2.2.length) 0) 0 1 ivU_i i33 (fun r34 e35 => ?_)
        have hs := bnd_p e35 hs
        refine am_iload_n dX7_isText_82 1 rfl ?_
        obtain ⟨i36, hs⟩ := hs
        rw [show (fX7_isText m q ) = r34.2 from ifn c4 (ifp c20 (ifp c28 (bnd_eq e35 (rfl))))]
        exact am_ireturn dX7_isText_83 rfl i36 ⟨rfl, rfl⟩

theorem dX7_kindHere_0 : decode cX7_kindHere 0 = .ok (.aload_n 0, 1) := by decide +kernel
theorem dX7_kindHere_1 : decode cX7_kindHere 1 = .ok (.ldc_w 272, 3) := by decide +kernel
theorem dX7_kindHere_4 : decode cX7_kindHere 4 = .ok (.invokevirtual 274, 3) := by decide +kernel
theorem dX7_kindHere_7 : decode cX7_kindHere 7 = .ok (.ifCond .eq 5, 3) := by decide +kernel
theorem dX7_kindHere_10 : decode cX7_kindHere 10 = .ok (.iconst 0, 1) := by decide +kernel
theorem dX7_kindHere_11 : decode cX7_kindHere 11 = .ok (.ireturn, 1) := by decide +kernel
theorem dX7_kindHere_12 : decode cX7_kindHere 12 = .ok (.aload_n 0, 1) := by decide +kernel
theorem dX7_kindHere_13 : decode cX7_kindHere 13 = .ok (.ldc_w 278, 3) := by decide +kernel
theorem dX7_kindHere_16 : decode cX7_kindHere 16 = .ok (.invokevirtual 274, 3) := by decide +kernel
theorem dX7_kindHere_19 : decode cX7_kindHere 19 = .ok (.ifCond .eq 5, 3) := by decide +kernel
theorem dX7_kindHere_22 : decode cX7_kindHere 22 = .ok (.iconst 1, 1) := by decide +kernel
theorem dX7_kindHere_23 : decode cX7_kindHere 23 = .ok (.ireturn, 1) := by decide +kernel
theorem dX7_kindHere_24 : decode cX7_kindHere 24 = .ok (.aload_n 0, 1) := by decide +kernel
theorem dX7_kindHere_25 : decode cX7_kindHere 25 = .ok (.ldc_w 280, 3) := by decide +kernel
theorem dX7_kindHere_28 : decode cX7_kindHere 28 = .ok (.invokevirtual 274, 3) := by decide +kernel
theorem dX7_kindHere_31 : decode cX7_kindHere 31 = .ok (.ifCond .eq 7, 3) := by decide +kernel
theorem dX7_kindHere_34 : decode cX7_kindHere 34 = .ok (.iconst 2, 1) := by decide +kernel
theorem dX7_kindHere_35 : decode cX7_kindHere 35 = .ok (.goto 4, 3) := by decide +kernel
theorem dX7_kindHere_38 : decode cX7_kindHere 38 = .ok (.iconst (-1), 1) := by decide +kernel
theorem dX7_kindHere_39 : decode cX7_kindHere 39 = .ok (.ireturn, 1) := by decide +kernel
def fX7_kindHere (m : Md)  : Int32 := (if (fX7_isText m sq28) = 0 then (if (fX7_isText m sq29) = 0 then (if (fX7_isText m sq30) = 0 then (-1) else 2) else 1) else 0)
def sX7_kindHere (m : Md)  : Prop := ((sX7_isText m sq28) ∧ (((fX7_isText m sq28) = 0 → ((sX7_isText m sq29) ∧ (((fX7_isText m sq29) = 0 → ((sX7_isText m sq30) ∧ (((fX7_isText m sq30) = 0 → True) ∧ (¬ (fX7_isText m sq30) = 0 → True)))) ∧ (¬ (fX7_isText m sq29) = 0 → True)))) ∧ (¬ (fX7_isText m sq28) = 0 → True)))
set_option maxRecDepth 20000 in
theorem ctX7_kindHere {l : Launch} {G : GM} {K : Nat → Option va_E} {h : List va_E} {m : Md} (hm : HM G K h m)  (hs : sX7_kindHere m ) : Ct l G mX7_kindHere 5 0 0 [.ref (gz G + 221)] h (fun v h1 => v = some (.int (fX7_kindHere m )) ∧ h1 = h) := by
  show Tr l G mX7_kindHere 5 0 0 0 [(0, .ref (gz G + 221))] [] h _
  unfold sX7_kindHere at hs
  refine am_aload_n dX7_kindHere_0 0 rfl ?_
  refine am_ldcwS (j := 28) dX7_kindHere_1 rfl ?_
  obtain ⟨i1, hs⟩ := hs
  refine am_callV (As := [.ref (gS G 28)]) (rest := []) dX7_kindHere_4 kMX7_274 rfl (hmc221 (m := m) hm) rfl rfl (Nat.le_of_ble_eq_true rfl) (d2 := 4) (by decide) (k2 := 0) (Nat.zero_le _) (u2 := 0) (Nat.zero_le _) (Nat.le_of_ble_eq_true rfl) (ctX7_isText (m := m) hm (j := 28) (q := sq28) rfl i1) (fun v2 h3 q4 => ?_)
  obtain ⟨rfl, rfl⟩ := q4
  refine am_if_eq dX7_kindHere_7 (by decide : ((7 : Nat) : Int) + (5) = ((12 : Nat) : Int)) (fun c5 => ?_) (fun c5 => ?_)
  · have hs := hs.1 c5
    refine am_aload_n dX7_kindHere_12 0 rfl ?_
    refine am_ldcwS (j := 29) dX7_kindHere_13 rfl ?_
    obtain ⟨i6, hs⟩ := hs
    refine am_callV (As := [.ref (gS G 29)]) (rest := []) dX7_kindHere_16 kMX7_274 rfl (hmc221 (m := m) hm) rfl rfl (Nat.le_of_ble_eq_true rfl) (d2 := 4) (by decide) (k2 := 0) (Nat.zero_le _) (u2 := 0) (Nat.zero_le _) (Nat.le_of_ble_eq_true rfl) (ctX7_isText (m := m) hm (j := 29) (q := sq29) rfl i6) (fun v7 h8 q9 => ?_)
    obtain ⟨rfl, rfl⟩ := q9
    refine am_if_eq dX7_kindHere_19 (by decide : ((19 : Nat) : Int) + (5) = ((24 : Nat) : Int)) (fun c10 => ?_) (fun c10 => ?_)
    · have hs := hs.1 c10
      refine am_aload_n dX7_kindHere_24 0 rfl ?_
      refine am_ldcwS (j := 30) dX7_kindHere_25 rfl ?_
      obtain ⟨i11, hs⟩ := hs
      refine am_callV (As := [.ref (gS G 30)]) (rest := []) dX7_kindHere_28 kMX7_274 rfl (hmc221 (m := m) hm) rfl rfl (Nat.le_of_ble_eq_true rfl) (d2 := 4) (by decide) (k2 := 0) (Nat.zero_le _) (u2 := 0) (Nat.zero_le _) (Nat.le_of_ble_eq_true rfl) (ctX7_isText (m := m) hm (j := 30) (q := sq30) rfl i11) (fun v12 h13 q14 => ?_)
      obtain ⟨rfl, rfl⟩ := q14
      refine am_if_eq dX7_kindHere_31 (by decide : ((31 : Nat) : Int) + (7) = ((38 : Nat) : Int)) (fun c15 => ?_) (fun c15 => ?_)
      · have hs := hs.1 c15
        refine am_iconst (v := (-1)) dX7_kindHere_38 (by decide) ?_
        rw [show (fX7_kindHere m ) = (-1) from ifp c5 (ifp c10 (ifp c15 (rfl)))]
        exact am_ireturn dX7_kindHere_39 rfl rfl ⟨rfl, rfl⟩
      · have hs := hs.2 c15
        refine am_iconst (v := 2) dX7_kindHere_34 (by decide) ?_
        refine am_goto dX7_kindHere_35 (by decide : ((35 : Nat) : Int) + (4) = ((39 : Nat) : Int)) ?_
        rw [show (fX7_kindHere m ) = 2 from ifp c5 (ifp c10 (ifn c15 (rfl)))]
        exact am_ireturn dX7_kindHere_39 rfl rfl ⟨rfl, rfl⟩
    · have hs := hs.2 c10
      refine am_iconst (v := 1) dX7_kindHere_22 (by decide) ?_
      rw [show (fX7_kindHere m ) = 1 from ifp c5 (ifn c10 (rfl))]
      exact am_ireturn dX7_kindHere_23 rfl rfl ⟨rfl, rfl⟩
  · have hs := hs.2 c5
    refine am_iconst (v := 0) dX7_kindHere_10 (by decide) ?_
    rw [show (fX7_kindHere m ) = 0 from ifn c5 (rfl)]
    exact am_ireturn dX7_kindHere_11 rfl rfl ⟨rfl, rfl⟩

theorem dX7_isKeyword_0 : decode cX7_isKeyword 0 = .ok (.aload_n 0, 1) := by decide +kernel
theorem dX7_isKeyword_1 : decode cX7_isKeyword 1 = .ok (.ldc_w 282, 3) := by decide +kernel
theorem dX7_isKeyword_4 : decode cX7_isKeyword 4 = .ok (.invokevirtual 274, 3) := by decide +kernel
theorem dX7_isKeyword_7 : decode cX7_isKeyword 7 = .ok (.ifCond .ne 81, 3) := by decide +kernel
theorem dX7_isKeyword_10 : decode cX7_isKeyword 10 = .ok (.aload_n 0, 1) := by decide +kernel
theorem dX7_isKeyword_11 : decode cX7_isKeyword 11 = .ok (.ldc_w 284, 3) := by decide +kernel
theorem dX7_isKeyword_14 : decode cX7_isKeyword 14 = .ok (.invokevirtual 274, 3) := by decide +kernel
theorem dX7_isKeyword_17 : decode cX7_isKeyword 17 = .ok (.ifCond .ne 71, 3) := by decide +kernel
theorem dX7_isKeyword_20 : decode cX7_isKeyword 20 = .ok (.aload_n 0, 1) := by decide +kernel
theorem dX7_isKeyword_21 : decode cX7_isKeyword 21 = .ok (.ldc_w 286, 3) := by decide +kernel
theorem dX7_isKeyword_24 : decode cX7_isKeyword 24 = .ok (.invokevirtual 274, 3) := by decide +kernel
theorem dX7_isKeyword_27 : decode cX7_isKeyword 27 = .ok (.ifCond .ne 61, 3) := by decide +kernel
theorem dX7_isKeyword_30 : decode cX7_isKeyword 30 = .ok (.aload_n 0, 1) := by decide +kernel
theorem dX7_isKeyword_31 : decode cX7_isKeyword 31 = .ok (.ldc_w 288, 3) := by decide +kernel
theorem dX7_isKeyword_34 : decode cX7_isKeyword 34 = .ok (.invokevirtual 274, 3) := by decide +kernel
theorem dX7_isKeyword_37 : decode cX7_isKeyword 37 = .ok (.ifCond .ne 51, 3) := by decide +kernel
theorem dX7_isKeyword_40 : decode cX7_isKeyword 40 = .ok (.aload_n 0, 1) := by decide +kernel
theorem dX7_isKeyword_41 : decode cX7_isKeyword 41 = .ok (.ldc_w 290, 3) := by decide +kernel
theorem dX7_isKeyword_44 : decode cX7_isKeyword 44 = .ok (.invokevirtual 274, 3) := by decide +kernel
theorem dX7_isKeyword_47 : decode cX7_isKeyword 47 = .ok (.ifCond .ne 41, 3) := by decide +kernel
theorem dX7_isKeyword_50 : decode cX7_isKeyword 50 = .ok (.aload_n 0, 1) := by decide +kernel
theorem dX7_isKeyword_51 : decode cX7_isKeyword 51 = .ok (.ldc_w 292, 3) := by decide +kernel
theorem dX7_isKeyword_54 : decode cX7_isKeyword 54 = .ok (.invokevirtual 274, 3) := by decide +kernel
theorem dX7_isKeyword_57 : decode cX7_isKeyword 57 = .ok (.ifCond .ne 31, 3) := by decide +kernel
theorem dX7_isKeyword_60 : decode cX7_isKeyword 60 = .ok (.aload_n 0, 1) := by decide +kernel
theorem dX7_isKeyword_61 : decode cX7_isKeyword 61 = .ok (.ldc_w 293, 3) := by decide +kernel
theorem dX7_isKeyword_64 : decode cX7_isKeyword 64 = .ok (.invokevirtual 274, 3) := by decide +kernel
theorem dX7_isKeyword_67 : decode cX7_isKeyword 67 = .ok (.ifCond .ne 21, 3) := by decide +kernel
theorem dX7_isKeyword_70 : decode cX7_isKeyword 70 = .ok (.aload_n 0, 1) := by decide +kernel
theorem dX7_isKeyword_71 : decode cX7_isKeyword 71 = .ok (.invokevirtual 295, 3) := by decide +kernel
theorem dX7_isKeyword_74 : decode cX7_isKeyword 74 = .ok (.iconst (-1), 1) := by decide +kernel
theorem dX7_isKeyword_75 : decode cX7_isKeyword 75 = .ok (.if_icmp .ne 13, 3) := by decide +kernel
theorem dX7_isKeyword_78 : decode cX7_isKeyword 78 = .ok (.aload_n 0, 1) := by decide +kernel
theorem dX7_isKeyword_79 : decode cX7_isKeyword 79 = .ok (.ldc_w 298, 3) := by decide +kernel
theorem dX7_isKeyword_82 : decode cX7_isKeyword 82 = .ok (.invokevirtual 274, 3) := by decide +kernel
theorem dX7_isKeyword_85 : decode cX7_isKeyword 85 = .ok (.ifCond .eq 7, 3) := by decide +kernel
theorem dX7_isKeyword_88 : decode cX7_isKeyword 88 = .ok (.iconst 1, 1) := by decide +kernel
theorem dX7_isKeyword_89 : decode cX7_isKeyword 89 = .ok (.goto 4, 3) := by decide +kernel
theorem dX7_isKeyword_92 : decode cX7_isKeyword 92 = .ok (.iconst 0, 1) := by decide +kernel
theorem dX7_isKeyword_93 : decode cX7_isKeyword 93 = .ok (.ireturn, 1) := by decide +kernel
def fX7_isKeyword (m : Md)  : Int32 := (if (fX7_isText m sq21) = 0 then (if (fX7_isText m sq22) = 0 then (if (fX7_isText m sq23) = 0 then (if (fX7_isText m sq24) = 0 then (if (fX7_isText m sq25) = 0 then (if (fX7_isText m sq26) = 0 then (if (fX7_isText m sq27) = 0 then (if (fX7_kindHere m ) = (-1) then (if (fX7_isText m sq31) = 0 then 0 else 1) else 1) else 1) else 1) else 1) else 1) else 1) else 1) else 1)
def sX7_isKeyword (m : Md)  : Prop := ((sX7_isText m sq21) ∧ (((fX7_isText m sq21) = 0 → ((sX7_isText m sq22) ∧ (((fX7_isText m sq22) = 0 → ((sX7_isText m sq23) ∧ (((fX7_isText m sq23) = 0 → ((sX7_isText m sq24) ∧ (((fX7_isText m sq24) = 0 → ((sX7_isText m sq25) ∧ (((fX7_isText m sq25) = 0 → ((sX7_isText m sq26) ∧ (((fX7_isText m sq26) = 0 → ((sX7_isText m sq27) ∧ (((fX7_isText m sq27) = 0 → ((sX7_kindHere m ) ∧ (((fX7_kindHere m ) = (-1) → ((sX7_isText m sq31) ∧ (((fX7_isText m sq31) = 0 → True) ∧ (¬ (fX7_isText m sq31) = 0 → True)))) ∧ (¬ (fX7_kindHere m ) = (-1) → True)))) ∧ (¬ (fX7_isText m sq27) = 0 → True)))) ∧ (¬ (fX7_isText m sq26) = 0 → True)))) ∧ (¬ (fX7_isText m sq25) = 0 → True)))) ∧ (¬ (fX7_isText m sq24) = 0 → True)))) ∧ (¬ (fX7_isText m sq23) = 0 → True)))) ∧ (¬ (fX7_isText m sq22) = 0 → True)))) ∧ (¬ (fX7_isText m sq21) = 0 → True)))
set_option maxRecDepth 20000 in
theorem ctX7_isKeyword {l : Launch} {G : GM} {K : Nat → Option va_E} {h : List va_E} {m : Md} (hm : HM G K h m)  (hs : sX7_isKeyword m ) : Ct l G mX7_isKeyword 6 0 0 [.ref (gz G + 221)] h (fun v h1 => v = some (.int (fX7_isKeyword m )) ∧ h1 = h) := by
  show Tr l G mX7_isKeyword 6 0 0 0 [(0, .ref (gz G + 221))] [] h _
  unfold sX7_isKeyword at hs
  refine am_aload_n dX7_isKeyword_0 0 rfl ?_
  refine am_ldcwS (j := 21) dX7_isKeyword_1 rfl ?_
  obtain ⟨i1, hs⟩ := hs
  refine am_callV (As := [.ref (gS G 21)]) (rest := []) dX7_isKeyword_4 kMX7_274 rfl (hmc221 (m := m) hm) rfl rfl (Nat.le_of_ble_eq_true rfl) (d2 := 4) (by decide) (k2 := 0) (Nat.zero_le _) (u2 := 0) (Nat.zero_le _) (Nat.le_of_ble_eq_true rfl) (ctX7_isText (m := m) hm (j := 21) (q := sq21) rfl i1) (fun v2 h3 q4 => ?_)
  obtain ⟨rfl, rfl⟩ := q4
  refine am_if_ne dX7_isKeyword_7 (by decide : ((7 : Nat) : Int) + (81) = ((88 : Nat) : Int)) (fun c5 => ?_) (fun c5 => ?_)
  · have hs := hs.2 c5
    refine am_iconst (v := 1) dX7_isKeyword_88 (by decide) ?_
    refine am_goto dX7_isKeyword_89 (by decide : ((89 : Nat) : Int) + (4) = ((93 : Nat) : Int)) ?_
    rw [show (fX7_isKeyword m ) = 1 from ifn c5 (rfl)]
    exact am_ireturn dX7_isKeyword_93 rfl rfl ⟨rfl, rfl⟩
  · have hs := hs.1 c5
    refine am_aload_n dX7_isKeyword_10 0 rfl ?_
    refine am_ldcwS (j := 22) dX7_isKeyword_11 rfl ?_
    obtain ⟨i6, hs⟩ := hs
    refine am_callV (As := [.ref (gS G 22)]) (rest := []) dX7_isKeyword_14 kMX7_274 rfl (hmc221 (m := m) hm) rfl rfl (Nat.le_of_ble_eq_true rfl) (d2 := 4) (by decide) (k2 := 0) (Nat.zero_le _) (u2 := 0) (Nat.zero_le _) (Nat.le_of_ble_eq_true rfl) (ctX7_isText (m := m) hm (j := 22) (q := sq22) rfl i6) (fun v7 h8 q9 => ?_)
    obtain ⟨rfl, rfl⟩ := q9
    refine am_if_ne dX7_isKeyword_17 (by decide : ((17 : Nat) : Int) + (71) = ((88 : Nat) : Int)) (fun c10 => ?_) (fun c10 => ?_)
    · have hs := hs.2 c10
      refine am_iconst (v := 1) dX7_isKeyword_88 (by decide) ?_
      refine am_goto dX7_isKeyword_89 (by decide : ((89 : Nat) : Int) + (4) = ((93 : Nat) : Int)) ?_
      rw [show (fX7_isKeyword m ) = 1 from ifp c5 (ifn c10 (rfl))]
      exact am_ireturn dX7_isKeyword_93 rfl rfl ⟨rfl, rfl⟩
    · have hs := hs.1 c10
      refine am_aload_n dX7_isKeyword_20 0 rfl ?_
      refine am_ldcwS (j := 23) dX7_isKeyword_21 rfl ?_
      obtain ⟨i11, hs⟩ := hs
      refine am_callV (As := [.ref (gS G 23)]) (rest := []) dX7_isKeyword_24 kMX7_274 rfl (hmc221 (m := m) hm) rfl rfl (Nat.le_of_ble_eq_true rfl) (d2 := 4) (by decide) (k2 := 0) (Nat.zero_le _) (u2 := 0) (Nat.zero_le _) (Nat.le_of_ble_eq_true rfl) (ctX7_isText (m := m) hm (j := 23) (q := sq23) rfl i11) (fun v12 h13 q14 => ?_)
      obtain ⟨rfl, rfl⟩ := q14
      refine am_if_ne dX7_isKeyword_27 (by decide : ((27 : Nat) : Int) + (61) = ((88 : Nat) : Int)) (fun c15 => ?_) (fun c15 => ?_)
      · have hs := hs.2 c15
        refine am_iconst (v := 1) dX7_isKeyword_88 (by decide) ?_
        refine am_goto dX7_isKeyword_89 (by decide : ((89 : Nat) : Int) + (4) = ((93 : Nat) : Int)) ?_
        rw [show (fX7_isKeyword m ) = 1 from ifp c5 (ifp c10 (ifn c15 (rfl)))]
        exact am_ireturn dX7_isKeyword_93 rfl rfl ⟨rfl, rfl⟩
      · have hs := hs.1 c15
        refine am_aload_n dX7_isKeyword_30 0 rfl ?_
        refine am_ldcwS (j := 24) dX7_isKeyword_31 rfl ?_
        obtain ⟨i16, hs⟩ := hs
        refine am_callV (As := [.ref (gS G 24)]) (rest := []) dX7_isKeyword_34 kMX7_274 rfl (hmc221 (m := m) hm) rfl rfl (Nat.le_of_ble_eq_true rfl) (d2 := 4) (by decide) (k2 := 0) (Nat.zero_le _) (u2 := 0) (Nat.zero_le _) (Nat.le_of_ble_eq_true rfl) (ctX7_isText (m := m) hm (j := 24) (q := sq24) rfl i16) (fun v17 h18 q19 => ?_)
        obtain ⟨rfl, rfl⟩ := q19
        refine am_if_ne dX7_isKeyword_37 (by decide : ((37 : Nat) : Int) + (51) = ((88 : Nat) : Int)) (fun c20 => ?_) (fun c20 => ?_)
        · have hs := hs.2 c20
          refine am_iconst (v := 1) dX7_isKeyword_88 (by decide) ?_
          refine am_goto dX7_isKeyword_89 (by decide : ((89 : Nat) : Int) + (4) = ((93 : Nat) : Int)) ?_
          rw [show (fX7_isKeyword m ) = 1 from ifp c5 (ifp c10 (ifp c15 (ifn c20 (rfl))))]
          exact am_ireturn dX7_isKeyword_93 rfl rfl ⟨rfl, rfl⟩
        · have hs := hs.1 c20
          refine am_aload_n dX7_isKeyword_40 0 rfl ?_
          refine am_ldcwS (j := 25) dX7_isKeyword_41 rfl ?_
          obtain ⟨i21, hs⟩ := hs
          refine am_callV (As := [.ref (gS G 25)]) (rest := []) dX7_isKeyword_44 kMX7_274 rfl (hmc221 (m := m) hm) rfl rfl (Nat.le_of_ble_eq_true rfl) (d2 := 4) (by decide) (k2 := 0) (Nat.zero_le _) (u2 := 0) (Nat.zero_le _) (Nat.le_of_ble_eq_true rfl) (ctX7_isText (m := m) hm (j := 25) (q := sq25) rfl i21) (fun v22 h23 q24 => ?_)
          obtain ⟨rfl, rfl⟩ := q24
          refine am_if_ne dX7_isKeyword_47 (by decide : ((47 : Nat) : Int) + (41) = ((88 : Nat) : Int)) (fun c25 => ?_) (fun c25 => ?_)
          · have hs := hs.2 c25
            refine am_iconst (v := 1) dX7_isKeyword_88 (by decide) ?_
            refine am_goto dX7_isKeyword_89 (by decide : ((89 : Nat) : Int) + (4) = ((93 : Nat) : Int)) ?_
            rw [show (fX7_isKeyword m ) = 1 from ifp c5 (ifp c10 (ifp c15 (ifp c20 (ifn c25 (rfl)))))]
            exact am_ireturn dX7_isKeyword_93 rfl rfl ⟨rfl, rfl⟩
          · have hs := hs.1 c25
            refine am_aload_n dX7_isKeyword_50 0 rfl ?_
            refine am_ldcwS (j := 26) dX7_isKeyword_51 rfl ?_
            obtain ⟨i26, hs⟩ := hs
            refine am_callV (As := [.ref (gS G 26)]) (rest := []) dX7_isKeyword_54 kMX7_274 rfl (hmc221 (m := m) hm) rfl rfl (Nat.le_of_ble_eq_true rfl) (d2 := 4) (by decide) (k2 := 0) (Nat.zero_le _) (u2 := 0) (Nat.zero_le _) (Nat.le_of_ble_eq_true rfl) (ctX7_isText (m := m) hm (j := 26) (q := sq26) rfl i26) (fun v27 h28 q29 => ?_)
            obtain ⟨rfl, rfl⟩ := q29
            refine am_if_ne dX7_isKeyword_57 (by decide : ((57 : Nat) : Int) + (31) = ((88 : Nat) : Int)) (fun c30 => ?_) (fun c30 => ?_)
            · have hs := hs.2 c30
              refine am_iconst (v := 1) dX7_isKeyword_88 (by decide) ?_
              refine am_goto dX7_isKeyword_89 (by decide : ((89 : Nat) : Int) + (4) = ((93 : Nat) : Int)) ?_
              rw [show (fX7_isKeyword m ) = 1 from ifp c5 (ifp c10 (ifp c15 (ifp c20 (ifp c25 (ifn c30 (rfl))))))]
              exact am_ireturn dX7_isKeyword_93 rfl rfl ⟨rfl, rfl⟩
            · have hs := hs.1 c30
              refine am_aload_n dX7_isKeyword_60 0 rfl ?_
              refine am_ldcwS (j := 27) dX7_isKeyword_61 rfl ?_
              obtain ⟨i31, hs⟩ := hs
              refine am_callV (As := [.ref (gS G 27)]) (rest := []) dX7_isKeyword_64 kMX7_274 rfl (hmc221 (m := m) hm) rfl rfl (Nat.le_of_ble_eq_true rfl) (d2 := 4) (by decide) (k2 := 0) (Nat.zero_le _) (u2 := 0) (Nat.zero_le _) (Nat.le_of_ble_eq_true rfl) (ctX7_isText (m := m) hm (j := 27) (q := sq27) rfl i31) (fun v32 h33 q34 => ?_)
              obtain ⟨rfl, rfl⟩ := q34
              refine am_if_ne dX7_isKeyword_67 (by decide : ((67 : Nat) : Int) + (21) = ((88 : Nat) : Int)) (fun c35 => ?_) (fun c35 => ?_)
              · have hs := hs.2 c35
                refine am_iconst (v := 1) dX7_isKeyword_88 (by decide) ?_
                refine am_goto dX7_isKeyword_89 (by decide : ((89 : Nat) : Int) + (4) = ((93 : Nat) : Int)) ?_
                rw [show (fX7_isKeyword m ) = 1 from ifp c5 (ifp c10 (ifp c15 (ifp c20 (ifp c25 (ifp c30 (ifn c35 (rfl)))))))]
                exact am_ireturn dX7_isKeyword_93 rfl rfl ⟨rfl, rfl⟩
              · have hs := hs.1 c35
                refine am_aload_n dX7_isKeyword_70 0 rfl ?_
                obtain ⟨i36, hs⟩ := hs
                refine am_callV (As := []) (rest := []) dX7_isKeyword_71 kMX7_295 rfl (hmc221 (m := m) hm) rfl rfl (Nat.le_of_ble_eq_true rfl) (d2 := 5) (by decide) (k2 := 0) (Nat.zero_le _) (u2 := 0) (Nat.zero_le _) (Nat.le_of_ble_eq_true rfl) (ctX7_kindHere (m := m) hm  i36) (fun v37 h38 q39 => ?_)
                obtain ⟨rfl, rfl⟩ := q39
                refine am_iconst (v := (-1)) dX7_isKeyword_74 (by decide) ?_
                refine am_icmp_ne dX7_isKeyword_75 (by decide : ((75 : Nat) : Int) + (13) = ((88 : Nat) : Int)) (fun c40 => ?_) (fun c40 => ?_)
                · have hs := hs.2 c40
                  refine am_iconst (v := 1) dX7_isKeyword_88 (by decide) ?_
                  refine am_goto dX7_isKeyword_89 (by decide : ((89 : Nat) : Int) + (4) = ((93 : Nat) : Int)) ?_
                  rw [show (fX7_isKeyword m ) = 1 from ifp c5 (ifp c10 (ifp c15 (ifp c20 (ifp c25 (ifp c30 (ifp c35 (ifn c40 (rfl))))))))]
                  exact am_ireturn dX7_isKeyword_93 rfl rfl ⟨rfl, rfl⟩
                · have hs := hs.1 c40
                  refine am_aload_n dX7_isKeyword_78 0 rfl ?_
                  refine am_ldcwS (j := 31) dX7_isKeyword_79 rfl ?_
                  obtain ⟨i41, hs⟩ := hs
                  refine am_callV (As := [.ref (gS G 31)]) (rest := []) dX7_isKeyword_82 kMX7_274 rfl (hmc221 (m := m) hm) rfl rfl (Nat.le_of_ble_eq_true rfl) (d2 := 4) (by decide) (k2 := 0) (Nat.zero_le _) (u2 := 0) (Nat.zero_le _) (Nat.le_of_ble_eq_true rfl) (ctX7_isText (m := m) hm (j := 31) (q := sq31) rfl i41) (fun v42 h43 q44 => ?_)
                  obtain ⟨rfl, rfl⟩ := q44
                  refine am_if_eq dX7_isKeyword_85 (by decide : ((85 : Nat) : Int) + (7) = ((92 : Nat) : Int)) (fun c45 => ?_) (fun c45 => ?_)
                  · have hs := hs.1 c45
                    refine am_iconst (v := 0) dX7_isKeyword_92 (by decide) ?_
                    rw [show (fX7_isKeyword m ) = 0 from ifp c5 (ifp c10 (ifp c15 (ifp c20 (ifp c25 (ifp c30 (ifp c35 (ifp c40 (ifp c45 (rfl)))))))))]
                    exact am_ireturn dX7_isKeyword_93 rfl rfl ⟨rfl, rfl⟩
                  · have hs := hs.2 c45
                    refine am_iconst (v := 1) dX7_isKeyword_88 (by decide) ?_
                    refine am_goto dX7_isKeyword_89 (by decide : ((89 : Nat) : Int) + (4) = ((93 : Nat) : Int)) ?_
                    rw [show (fX7_isKeyword m ) = 1 from ifp c5 (ifp c10 (ifp c15 (ifp c20 (ifp c25 (ifp c30 (ifp c35 (ifp c40 (ifn c45 (rfl)))))))))]
                    exact am_ireturn dX7_isKeyword_93 rfl rfl ⟨rfl, rfl⟩

theorem dX7_number_0 : decode cX7_number 0 = .ok (.aload_n 0, 1) := by decide +kernel
theorem dX7_number_1 : decode cX7_number 1 = .ok (.invokevirtual 229, 3) := by decide +kernel
theorem dX7_number_4 : decode cX7_number 4 = .ok (.ifCond .eq 16, 3) := by decide +kernel
theorem dX7_number_7 : decode cX7_number 7 = .ok (.aload_n 0, 1) := by decide +kernel
theorem dX7_number_8 : decode cX7_number 8 = .ok (.getfield 245, 3) := by decide +kernel
theorem dX7_number_11 : decode cX7_number 11 = .ok (.iconst 2, 1) := by decide +kernel
theorem dX7_number_12 : decode cX7_number 12 = .ok (.if_icmp .eq 8, 3) := by decide +kernel
theorem dX7_number_15 : decode cX7_number 15 = .ok (.aload_n 0, 1) := by decide +kernel
theorem dX7_number_16 : decode cX7_number 16 = .ok (.iconst 1, 1) := by decide +kernel
theorem dX7_number_17 : decode cX7_number 17 = .ok (.invokevirtual 300, 3) := by decide +kernel
theorem dX7_number_20 : decode cX7_number 20 = .ok (.aload_n 0, 1) := by decide +kernel
theorem dX7_number_21 : decode cX7_number 21 = .ok (.invokevirtual 229, 3) := by decide +kernel
theorem dX7_number_24 : decode cX7_number 24 = .ok (.ifCond .eq 23, 3) := by decide +kernel
theorem dX7_number_27 : decode cX7_number 27 = .ok (.aload_n 0, 1) := by decide +kernel
theorem dX7_number_28 : decode cX7_number 28 = .ok (.getfield 256, 3) := by decide +kernel
theorem dX7_number_31 : decode cX7_number 31 = .ok (.i2l, 1) := by decide +kernel
theorem dX7_number_32 : decode cX7_number 32 = .ok (.iload_n 1, 1) := by decide +kernel
theorem dX7_number_33 : decode cX7_number 33 = .ok (.i2l, 1) := by decide +kernel
theorem dX7_number_34 : decode cX7_number 34 = .ok (.iload_n 2, 1) := by decide +kernel
theorem dX7_number_35 : decode cX7_number 35 = .ok (.i2l, 1) := by decide +kernel
theorem dX7_number_36 : decode cX7_number 36 = .ok (.invokestatic 56, 3) := by decide +kernel
theorem dX7_number_39 : decode cX7_number 39 = .ok (.ifCond .ne 8, 3) := by decide +kernel
theorem dX7_number_42 : decode cX7_number 42 = .ok (.aload_n 0, 1) := by decide +kernel
theorem dX7_number_43 : decode cX7_number 43 = .ok (.iconst 2, 1) := by decide +kernel
theorem dX7_number_44 : decode cX7_number 44 = .ok (.invokevirtual 300, 3) := by decide +kernel
theorem dX7_number_47 : decode cX7_number 47 = .ok (.aload_n 0, 1) := by decide +kernel
theorem dX7_number_48 : decode cX7_number 48 = .ok (.getfield 256, 3) := by decide +kernel
theorem dX7_number_51 : decode cX7_number 51 = .ok (.istore_n 3, 1) := by decide +kernel
theorem dX7_number_52 : decode cX7_number 52 = .ok (.aload_n 0, 1) := by decide +kernel
theorem dX7_number_53 : decode cX7_number 53 = .ok (.invokevirtual 303, 3) := by decide +kernel
theorem dX7_number_56 : decode cX7_number 56 = .ok (.aload_n 0, 1) := by decide +kernel
theorem dX7_number_57 : decode cX7_number 57 = .ok (.invokevirtual 229, 3) := by decide +kernel
theorem dX7_number_60 : decode cX7_number 60 = .ok (.ifCond .eq 7, 3) := by decide +kernel
theorem dX7_number_63 : decode cX7_number 63 = .ok (.iload_n 3, 1) := by decide +kernel
theorem dX7_number_64 : decode cX7_number 64 = .ok (.goto 4, 3) := by decide +kernel
theorem dX7_number_67 : decode cX7_number 67 = .ok (.iload_n 1, 1) := by decide +kernel
theorem dX7_number_68 : decode cX7_number 68 = .ok (.ireturn, 1) := by decide +kernel
def fX7_number (m : Md) (z1 : Int32) (z2 : Int32) : Int32 × Md := (if (fX7_good m ) = 0 then (bnd (fX7_goOn m ) (fun r13 => (if (fX7_good r13 ) = 0 then (z1, r13) else ((m.1 8), r13)))) else (if (m.1 7) = 2 then (if (fX7_in ((m.1 8).toInt64) (z1.toInt64) (z2.toInt64)) = 0 then (bnd (fX7_fail m 2) (fun r43 => (bnd (fX7_goOn r43 ) (fun r50 => (if (fX7_good r50 ) = 0 then (z1, r50) else ((r43.1 8), r50)))))) else (bnd (fX7_goOn m ) (fun r33 => (if (fX7_good r33 ) = 0 then (z1, r33) else ((m.1 8), r33))))) else (bnd (fX7_fail m 1) (fun r60 => (if (fX7_good r60 ) = 0 then (bnd (fX7_goOn r60 ) (fun r71 => (if (fX7_good r71 ) = 0 then (z1, r71) else ((r60.1 8), r71)))) else (if (fX7_in ((r60.1 8).toInt64) (z1.toInt64) (z2.toInt64)) = 0 then (bnd (fX7_fail r60 2) (fun r96 => (bnd (fX7_goOn r96 ) (fun r103 => (if (fX7_good r103 ) = 0 then (z1, r103) else ((r96.1 8), r103)))))) else (bnd (fX7_goOn r60 ) (fun r86 => (if (fX7_good r86 ) = 0 then (z1, r86) else ((r60.1 8), r86))))))))))
def sX7_number (m : Md) (z1 : Int32) (z2 : Int32) : Prop := (((fX7_good m ) = 0 → ((sX7_goOn m ) ∧ (bnd (fX7_goOn m ) (fun r13 => (((fX7_good r13 ) = 0 → True) ∧ (¬ (fX7_good r13 ) = 0 → True)))))) ∧ (¬ (fX7_good m ) = 0 → (((m.1 7) = 2 → (((fX7_in ((m.1 8).toInt64) (z1.toInt64) (z2.toInt64)) = 0 → (bnd (fX7_fail m 2) (fun r43 => ((sX7_goOn r43 ) ∧ (bnd (fX7_goOn r43 ) (fun r50 => (((fX7_good r50 ) = 0 → True) ∧ (¬ (fX7_good r50 ) = 0 → True)))))))) ∧ (¬ (fX7_in ((m.1 8).toInt64) (z1.toInt64) (z2.toInt64)) = 0 → ((sX7_goOn m ) ∧ (bnd (fX7_goOn m ) (fun r33 => (((fX7_good r33 ) = 0 → True) ∧ (¬ (fX7_good r33 ) = 0 → True)))))))) ∧ (¬ (m.1 7) = 2 → (bnd (fX7_fail m 1) (fun r60 => (((fX7_good r60 ) = 0 → ((sX7_goOn r60 ) ∧ (bnd (fX7_goOn r60 ) (fun r71 => (((fX7_good r71 ) = 0 → True) ∧ (¬ (fX7_good r71 ) = 0 → True)))))) ∧ (¬ (fX7_good r60 ) = 0 → (((fX7_in ((r60.1 8).toInt64) (z1.toInt64) (z2.toInt64)) = 0 → (bnd (fX7_fail r60 2) (fun r96 => ((sX7_goOn r96 ) ∧ (bnd (fX7_goOn r96 ) (fun r103 => (((fX7_good r103 ) = 0 → True) ∧ (¬ (fX7_good r103 ) = 0 → True)))))))) ∧ (¬ (fX7_in ((r60.1 8).toInt64) (z1.toInt64) (z2.toInt64)) = 0 → ((sX7_goOn r60 ) ∧ (bnd (fX7_goOn r60 ) (fun r86 => (((fX7_good r86 ) = 0 → True) ∧ (¬ (fX7_good r86 ) = 0 → True)))))))))))))))
set_option maxRecDepth 20000 in
theorem ctX7_number {l : Launch} {G : GM} {K : Nat → Option va_E} {h : List va_E} {m : Md} (hm : HM G K h m) (z1 : Int32) (z2 : Int32) (hs : sX7_number m z1 z2) : Ct l G mX7_number 3 0 0 [.ref (gz G + 221), .int z1, .int z2] h (fun v h1 => ∃ r, (fX7_number m z1 z2) = r ∧ v = some (.int r.1) ∧ HM G K h1 r.2) := by
  show Tr l G mX7_number 3 0 0 0 [(0, .ref (gz G + 221)), (1, .int z1), (2, .int z2)] [] h _
  unfold sX7_number at hs
  refine am_aload_n dX7_number_0 0 rfl ?_
  refine am_callV (As := []) (rest := []) dX7_number_1 kMX7_229 rfl (hmc221 (m := m) hm) rfl rfl (Nat.le_of_ble_eq_true rfl) (d2 := 0) (by decide) (k2 := 0) (Nat.zero_le _) (u2 := 0) (Nat.zero_le _) (Nat.le_of_ble_eq_true rfl) (ctX7_good (m := m) hm  ) (fun v1 h2 q3 => ?_)
  obtain ⟨rfl, rfl⟩ := q3
  refine am_if_eq dX7_number_4 (by decide : ((4 : Nat) : Int) + (16) = ((20 : Nat) : Int)) (fun c4 => ?_) (fun c4 => ?_)
  · have hs := hs.1 c4
    refine am_aload_n dX7_number_20 0 rfl ?_
    refine am_callV (As := []) (rest := []) dX7_number_21 kMX7_229 rfl (hmc221 (m := m) hm) rfl rfl (Nat.le_of_ble_eq_true rfl) (d2 := 0) (by decide) (k2 := 0) (Nat.zero_le _) (u2 := 0) (Nat.zero_le _) (Nat.le_of_ble_eq_true rfl) (ctX7_good (m := m) hm  ) (fun v5 h6 q7 => ?_)
    obtain ⟨rfl, rfl⟩ := q7
    refine am_if_eq dX7_number_24 (by decide : ((24 : Nat) : Int) + (23) = ((47 : Nat) : Int)) (fun _ => ?_) (fun q => absurd c4 q)
    refine am_aload_n dX7_number_47 0 rfl ?_
    refine am_get (v := .int (m.1 8)) dX7_number_48 kGX7_256 (hmc221 (m := m) hm) rfl ?_
    refine am_istore_n dX7_number_51 (by decide) (lv' := [(3, .int (m.1 8)), (0, .ref (gz G + 221)), (1, .int z1), (2, .int z2)]) rfl ?_
    refine am_aload_n dX7_number_52 1 rfl ?_
    obtain ⟨i9, hs⟩ := hs
    refine am_callV (As := []) (rest := []) dX7_number_53 kMX7_303 rfl (hmc221 (m := m) hm) rfl rfl (Nat.le_of_ble_eq_true rfl) (d2 := 2) (by decide) (k2 := 0) (Nat.zero_le _) (u2 := 0) (Nat.zero_le _) (Nat.le_of_ble_eq_true rfl) (ctX7_goOn (m := m) hm  i9) (fun v10 h11 q12 => ?_)
    obtain ⟨r13, e14, rfl, w15⟩ := q12
    have hs := bnd_p e14 hs
    refine am_aload_n dX7_number_56 1 rfl ?_
    refine am_callV (As := []) (rest := []) dX7_number_57 kMX7_229 rfl (hmc221 (m := r13) w15) rfl rfl (Nat.le_of_ble_eq_true rfl) (d2 := 0) (by decide) (k2 := 0) (Nat.zero_le _) (u2 := 0) (Nat.zero_le _) (Nat.le_of_ble_eq_true rfl) (ctX7_good (m := r13) w15  ) (fun v16 h17 q18 => ?_)
    obtain ⟨rfl, rfl⟩ := q18
    refine am_if_eq dX7_number_60 (by decide : ((60 : Nat) : Int) + (7) = ((67 : Nat) : Int)) (fun c19 => ?_) (fun c19 => ?_)
    · have hs := hs.1 c19
      refine am_iload_n dX7_number_67 2 rfl ?_
      exact am_ireturn dX7_number_68 rfl rfl ⟨_, ifp c4 (bnd_eq e14 (ifp c19 (rfl))), rfl, w15⟩
    · have hs := hs.2 c19
      refine am_iload_n dX7_number_63 0 rfl ?_
      refine am_goto dX7_number_64 (by decide : ((64 : Nat) : Int) + (4) = ((68 : Nat) : Int)) ?_
      exact am_ireturn dX7_number_68 rfl rfl ⟨_, ifp c4 (bnd_eq e14 (ifn c19 (rfl))), rfl, w15⟩
  · have hs := hs.2 c4
    refine am_aload_n dX7_number_7 0 rfl ?_
    refine am_get (v := .int (m.1 7)) dX7_number_8 kGX7_245 (hmc221 (m := m) hm) rfl ?_
    refine am_iconst (v := 2) dX7_number_11 (by decide) ?_
    refine am_icmp_eq dX7_number_12 (by decide : ((12 : Nat) : Int) + (8) = ((20 : Nat) : Int)) (fun c20 => ?_) (fun c20 => ?_)
    · have hs := hs.1 c20
      refine am_aload_n dX7_number_20 0 rfl ?_
      refine am_callV (As := []) (rest := []) dX7_number_21 kMX7_229 rfl (hmc221 (m := m) hm) rfl rfl (Nat.le_of_ble_eq_true rfl) (d2 := 0) (by decide) (k2 := 0) (Nat.zero_le _) (u2 := 0) (Nat.zero_le _) (Nat.le_of_ble_eq_true rfl) (ctX7_good (m := m) hm  ) (fun v21 h22 q23 => ?_)
      obtain ⟨rfl, rfl⟩ := q23
      refine am_if_eq dX7_number_24 (by decide : ((24 : Nat) : Int) + (23) = ((47 : Nat) : Int)) (fun q => absurd q c4) (fun _ => ?_)
      refine am_aload_n dX7_number_27 0 rfl ?_
      refine am_get (v := .int (m.1 8)) dX7_number_28 kGX7_256 (hmc221 (m := m) hm) rfl ?_
      refine am_i2l (v := (m.1 8).toInt64) dX7_number_31 rfl ?_
      refine am_iload_n dX7_number_32 1 rfl ?_
      refine am_i2l (v := z1.toInt64) dX7_number_33 rfl ?_
      refine am_iload_n dX7_number_34 2 rfl ?_
      refine am_i2l (v := z2.toInt64) dX7_number_35 rfl ?_
      refine am_callS (As := [.long ((m.1 8).toInt64), .long (z1.toInt64), .long (z2.toInt64)]) (rest := []) dX7_number_36 kMX7_56 rfl  rfl (Nat.le_of_ble_eq_true rfl) (d2 := 0) (by decide) (k2 := 0) (Nat.zero_le _) (u2 := 0) (Nat.zero_le _) (Nat.le_of_ble_eq_true rfl) (ctX7_in  ((m.1 8).toInt64) (z1.toInt64) (z2.toInt64) ) (fun v25 h26 q27 => ?_)
      obtain ⟨rfl, rfl⟩ := q27
      refine am_if_ne dX7_number_39 (by decide : ((39 : Nat) : Int) + (8) = ((47 : Nat) : Int)) (fun c28 => ?_) (fun c28 => ?_)
      · have hs := hs.2 c28
        refine am_aload_n dX7_number_47 0 rfl ?_
        refine am_get (v := .int (m.1 8)) dX7_number_48 kGX7_256 (hmc221 (m := m) hm) rfl ?_
        refine am_istore_n dX7_number_51 (by decide) (lv' := [(3, .int (m.1 8)), (0, .ref (gz G + 221)), (1, .int z1), (2, .int z2)]) rfl ?_
        refine am_aload_n dX7_number_52 1 rfl ?_
        obtain ⟨i29, hs⟩ := hs
        refine am_callV (As := []) (rest := []) dX7_number_53 kMX7_303 rfl (hmc221 (m := m) hm) rfl rfl (Nat.le_of_ble_eq_true rfl) (d2 := 2) (by decide) (k2 := 0) (Nat.zero_le _) (u2 := 0) (Nat.zero_le _) (Nat.le_of_ble_eq_true rfl) (ctX7_goOn (m := m) hm  i29) (fun v30 h31 q32 => ?_)
        obtain ⟨r33, e34, rfl, w35⟩ := q32
        have hs := bnd_p e34 hs
        refine am_aload_n dX7_number_56 1 rfl ?_
        refine am_callV (As := []) (rest := []) dX7_number_57 kMX7_229 rfl (hmc221 (m := r33) w35) rfl rfl (Nat.le_of_ble_eq_true rfl) (d2 := 0) (by decide) (k2 := 0) (Nat.zero_le _) (u2 := 0) (Nat.zero_le _) (Nat.le_of_ble_eq_true rfl) (ctX7_good (m := r33) w35  ) (fun v36 h37 q38 => ?_)
        obtain ⟨rfl, rfl⟩ := q38
        refine am_if_eq dX7_number_60 (by decide : ((60 : Nat) : Int) + (7) = ((67 : Nat) : Int)) (fun c39 => ?_) (fun c39 => ?_)
        · have hs := hs.1 c39
          refine am_iload_n dX7_number_67 2 rfl ?_
          exact am_ireturn dX7_number_68 rfl rfl ⟨_, ifn c4 (ifp c20 (ifn c28 (bnd_eq e34 (ifp c39 (rfl))))), rfl, w35⟩
        · have hs := hs.2 c39
          refine am_iload_n dX7_number_63 0 rfl ?_
          refine am_goto dX7_number_64 (by decide : ((64 : Nat) : Int) + (4) = ((68 : Nat) : Int)) ?_
          exact am_ireturn dX7_number_68 rfl rfl ⟨_, ifn c4 (ifp c20 (ifn c28 (bnd_eq e34 (ifn c39 (rfl))))), rfl, w35⟩
      · have hs := hs.1 c28
        refine am_aload_n dX7_number_42 0 rfl ?_
        refine am_iconst (v := 2) dX7_number_43 (by decide) ?_
        refine am_callV (As := [.int 2]) (rest := []) dX7_number_44 kMX7_300 rfl (hmc221 (m := m) hm) rfl rfl (Nat.le_of_ble_eq_true rfl) (d2 := 1) (by decide) (k2 := 0) (Nat.zero_le _) (u2 := 0) (Nat.zero_le _) (Nat.le_of_ble_eq_true rfl) (ctX7_fail (m := m) hm 2 ) (fun v40 h41 q42 => ?_)
        obtain ⟨r43, e44, rfl, w45⟩ := q42
        have hs := bnd_p e44 hs
        refine am_aload_n dX7_number_47 0 rfl ?_
        refine am_get (v := .int (r43.1 8)) dX7_number_48 kGX7_256 (hmc221 (m := r43) w45) rfl ?_
        refine am_istore_n dX7_number_51 (by decide) (lv' := [(3, .int (r43.1 8)), (0, .ref (gz G + 221)), (1, .int z1), (2, .int z2)]) rfl ?_
        refine am_aload_n dX7_number_52 1 rfl ?_
        obtain ⟨i46, hs⟩ := hs
        refine am_callV (As := []) (rest := []) dX7_number_53 kMX7_303 rfl (hmc221 (m := r43) w45) rfl rfl (Nat.le_of_ble_eq_true rfl) (d2 := 2) (by decide) (k2 := 0) (Nat.zero_le _) (u2 := 0) (Nat.zero_le _) (Nat.le_of_ble_eq_true rfl) (ctX7_goOn (m := r43) w45  i46) (fun v47 h48 q49 => ?_)
        obtain ⟨r50, e51, rfl, w52⟩ := q49
        have hs := bnd_p e51 hs
        refine am_aload_n dX7_number_56 1 rfl ?_
        refine am_callV (As := []) (rest := []) dX7_number_57 kMX7_229 rfl (hmc221 (m := r50) w52) rfl rfl (Nat.le_of_ble_eq_true rfl) (d2 := 0) (by decide) (k2 := 0) (Nat.zero_le _) (u2 := 0) (Nat.zero_le _) (Nat.le_of_ble_eq_true rfl) (ctX7_good (m := r50) w52  ) (fun v53 h54 q55 => ?_)
        obtain ⟨rfl, rfl⟩ := q55
        refine am_if_eq dX7_number_60 (by decide : ((60 : Nat) : Int) + (7) = ((67 : Nat) : Int)) (fun c56 => ?_) (fun c56 => ?_)
        · have hs := hs.1 c56
          refine am_iload_n dX7_number_67 2 rfl ?_
          exact am_ireturn dX7_number_68 rfl rfl ⟨_, ifn c4 (ifp c20 (ifp c28 (bnd_eq e44 (bnd_eq e51 (ifp c56 (rfl)))))), rfl, w52⟩
        · have hs := hs.2 c56
          refine am_iload_n dX7_number_63 0 rfl ?_
          refine am_goto dX7_number_64 (by decide : ((64 : Nat) : Int) + (4) = ((68 : Nat) : Int)) ?_
          exact am_ireturn dX7_number_68 rfl rfl ⟨_, ifn c4 (ifp c20 (ifp c28 (bnd_eq e44 (bnd_eq e51 (ifn c56 (rfl)))))), rfl, w52⟩
    · have hs := hs.2 c20
      refine am_aload_n dX7_number_15 0 rfl ?_
      refine am_iconst (v := 1) dX7_number_16 (by decide) ?_
      refine am_callV (As := [.int 1]) (rest := []) dX7_number_17 kMX7_300 rfl (hmc221 (m := m) hm) rfl rfl (Nat.le_of_ble_eq_true rfl) (d2 := 1) (by decide) (k2 := 0) (Nat.zero_le _) (u2 := 0) (Nat.zero_le _) (Nat.le_of_ble_eq_true rfl) (ctX7_fail (m := m) hm 1 ) (fun v57 h58 q59 => ?_)
      obtain ⟨r60, e61, rfl, w62⟩ := q59
      have hs := bnd_p e61 hs
      refine am_aload_n dX7_number_20 0 rfl ?_
      refine am_callV (As := []) (rest := []) dX7_number_21 kMX7_229 rfl (hmc221 (m := r60) w62) rfl rfl (Nat.le_of_ble_eq_true rfl) (d2 := 0) (by decide) (k2 := 0) (Nat.zero_le _) (u2 := 0) (Nat.zero_le _) (Nat.le_of_ble_eq_true rfl) (ctX7_good (m := r60) w62  ) (fun v63 h64 q65 => ?_)
      obtain ⟨rfl, rfl⟩ := q65
      refine am_if_eq dX7_number_24 (by decide : ((24 : Nat) : Int) + (23) = ((47 : Nat) : Int)) (fun c66 => ?_) (fun c66 => ?_)
      · have hs := hs.1 c66
        refine am_aload_n dX7_number_47 0 rfl ?_
        refine am_get (v := .int (r60.1 8)) dX7_number_48 kGX7_256 (hmc221 (m := r60) w62) rfl ?_
        refine am_istore_n dX7_number_51 (by decide) (lv' := [(3, .int (r60.1 8)), (0, .ref (gz G + 221)), (1, .int z1), (2, .int z2)]) rfl ?_
        refine am_aload_n dX7_number_52 1 rfl ?_
        obtain ⟨i67, hs⟩ := hs
        refine am_callV (As := []) (rest := []) dX7_number_53 kMX7_303 rfl (hmc221 (m := r60) w62) rfl rfl (Nat.le_of_ble_eq_true rfl) (d2 := 2) (by decide) (k2 := 0) (Nat.zero_le _) (u2 := 0) (Nat.zero_le _) (Nat.le_of_ble_eq_true rfl) (ctX7_goOn (m := r60) w62  i67) (fun v68 h69 q70 => ?_)
        obtain ⟨r71, e72, rfl, w73⟩ := q70
        have hs := bnd_p e72 hs
        refine am_aload_n dX7_number_56 1 rfl ?_
        refine am_callV (As := []) (rest := []) dX7_number_57 kMX7_229 rfl (hmc221 (m := r71) w73) rfl rfl (Nat.le_of_ble_eq_true rfl) (d2 := 0) (by decide) (k2 := 0) (Nat.zero_le _) (u2 := 0) (Nat.zero_le _) (Nat.le_of_ble_eq_true rfl) (ctX7_good (m := r71) w73  ) (fun v74 h75 q76 => ?_)
        obtain ⟨rfl, rfl⟩ := q76
        refine am_if_eq dX7_number_60 (by decide : ((60 : Nat) : Int) + (7) = ((67 : Nat) : Int)) (fun c77 => ?_) (fun c77 => ?_)
        · have hs := hs.1 c77
          refine am_iload_n dX7_number_67 2 rfl ?_
          exact am_ireturn dX7_number_68 rfl rfl ⟨_, ifn c4 (ifn c20 (bnd_eq e61 (ifp c66 (bnd_eq e72 (ifp c77 (rfl)))))), rfl, w73⟩
        · have hs := hs.2 c77
          refine am_iload_n dX7_number_63 0 rfl ?_
          refine am_goto dX7_number_64 (by decide : ((64 : Nat) : Int) + (4) = ((68 : Nat) : Int)) ?_
          exact am_ireturn dX7_number_68 rfl rfl ⟨_, ifn c4 (ifn c20 (bnd_eq e61 (ifp c66 (bnd_eq e72 (ifn c77 (rfl)))))), rfl, w73⟩
      · have hs := hs.2 c66
        refine am_aload_n dX7_number_27 0 rfl ?_
        refine am_get (v := .int (r60.1 8)) dX7_number_28 kGX7_256 (hmc221 (m := r60) w62) rfl ?_
        refine am_i2l (v := (r60.1 8).toInt64) dX7_number_31 rfl ?_
        refine am_iload_n dX7_number_32 1 rfl ?_
        refine am_i2l (v := z1.toInt64) dX7_number_33 rfl ?_
        refine am_iload_n dX7_number_34 2 rfl ?_
        refine am_i2l (v := z2.toInt64) dX7_number_35 rfl ?_
        refine am_callS (As := [.long ((r60.1 8).toInt64), .long (z1.toInt64), .long (z2.toInt64)]) (rest := []) dX7_number_36 kMX7_56 rfl  rfl (Nat.le_of_ble_eq_true rfl) (d2 := 0) (by decide) (k2 := 0) (Nat.zero_le _) (u2 := 0) (Nat.zero_le _) (Nat.le_of_ble_eq_true rfl) (ctX7_in  ((r60.1 8).toInt64) (z1.toInt64) (z2.toInt64) ) (fun v78 h79 q80 => ?_)
        obtain ⟨rfl, rfl⟩ := q80
        refine am_if_ne dX7_number_39 (by decide : ((39 : Nat) : Int) + (8) = ((47 : Nat) : Int)) (fun c81 => ?_) (fun c81 => ?_)
        · have hs := hs.2 c81
          refine am_aload_n dX7_number_47 0 rfl ?_
          refine am_get (v := .int (r60.1 8)) dX7_number_48 kGX7_256 (hmc221 (m := r60) w62) rfl ?_
          refine am_istore_n dX7_number_51 (by decide) (lv' := [(3, .int (r60.1 8)), (0, .ref (gz G + 221)), (1, .int z1), (2, .int z2)]) rfl ?_
          refine am_aload_n dX7_number_52 1 rfl ?_
          obtain ⟨i82, hs⟩ := hs
          refine am_callV (As := []) (rest := []) dX7_number_53 kMX7_303 rfl (hmc221 (m := r60) w62) rfl rfl (Nat.le_of_ble_eq_true rfl) (d2 := 2) (by decide) (k2 := 0) (Nat.zero_le _) (u2 := 0) (Nat.zero_le _) (Nat.le_of_ble_eq_true rfl) (ctX7_goOn (m := r60) w62  i82) (fun v83 h84 q85 => ?_)
          obtain ⟨r86, e87, rfl, w88⟩ := q85
          have hs := bnd_p e87 hs
          refine am_aload_n dX7_number_56 1 rfl ?_
          refine am_callV (As := []) (rest := []) dX7_number_57 kMX7_229 rfl (hmc221 (m := r86) w88) rfl rfl (Nat.le_of_ble_eq_true rfl) (d2 := 0) (by decide) (k2 := 0) (Nat.zero_le _) (u2 := 0) (Nat.zero_le _) (Nat.le_of_ble_eq_true rfl) (ctX7_good (m := r86) w88  ) (fun v89 h90 q91 => ?_)
          obtain ⟨rfl, rfl⟩ := q91
          refine am_if_eq dX7_number_60 (by decide : ((60 : Nat) : Int) + (7) = ((67 : Nat) : Int)) (fun c92 => ?_) (fun c92 => ?_)
          · have hs := hs.1 c92
            refine am_iload_n dX7_number_67 2 rfl ?_
            exact am_ireturn dX7_number_68 rfl rfl ⟨_, ifn c4 (ifn c20 (bnd_eq e61 (ifn c66 (ifn c81 (bnd_eq e87 (ifp c92 (rfl))))))), rfl, w88⟩
          · have hs := hs.2 c92
            refine am_iload_n dX7_number_63 0 rfl ?_
            refine am_goto dX7_number_64 (by decide : ((64 : Nat) : Int) + (4) = ((68 : Nat) : Int)) ?_
            exact am_ireturn dX7_number_68 rfl rfl ⟨_, ifn c4 (ifn c20 (bnd_eq e61 (ifn c66 (ifn c81 (bnd_eq e87 (ifn c92 (rfl))))))), rfl, w88⟩
        · have hs := hs.1 c81
          refine am_aload_n dX7_number_42 0 rfl ?_
          refine am_iconst (v := 2) dX7_number_43 (by decide) ?_
          refine am_callV (As := [.int 2]) (rest := []) dX7_number_44 kMX7_300 rfl (hmc221 (m := r60) w62) rfl rfl (Nat.le_of_ble_eq_true rfl) (d2 := 1) (by decide) (k2 := 0) (Nat.zero_le _) (u2 := 0) (Nat.zero_le _) (Nat.le_of_ble_eq_true rfl) (ctX7_fail (m := r60) w62 2 ) (fun v93 h94 q95 => ?_)
          obtain ⟨r96, e97, rfl, w98⟩ := q95
          have hs := bnd_p e97 hs
          refine am_aload_n dX7_number_47 0 rfl ?_
          refine am_get (v := .int (r96.1 8)) dX7_number_48 kGX7_256 (hmc221 (m := r96) w98) rfl ?_
          refine am_istore_n dX7_number_51 (by decide) (lv' := [(3, .int (r96.1 8)), (0, .ref (gz G + 221)), (1, .int z1), (2, .int z2)]) rfl ?_
          refine am_aload_n dX7_number_52 1 rfl ?_
          obtain ⟨i99, hs⟩ := hs
          refine am_callV (As := []) (rest := []) dX7_number_53 kMX7_303 rfl (hmc221 (m := r96) w98) rfl rfl (Nat.le_of_ble_eq_true rfl) (d2 := 2) (by decide) (k2 := 0) (Nat.zero_le _) (u2 := 0) (Nat.zero_le _) (Nat.le_of_ble_eq_true rfl) (ctX7_goOn (m := r96) w98  i99) (fun v100 h101 q102 => ?_)
          obtain ⟨r103, e104, rfl, w105⟩ := q102
          have hs := bnd_p e104 hs
          refine am_aload_n dX7_number_56 1 rfl ?_
          refine am_callV (As := []) (rest := []) dX7_number_57 kMX7_229 rfl (hmc221 (m := r103) w105) rfl rfl (Nat.le_of_ble_eq_true rfl) (d2 := 0) (by decide) (k2 := 0) (Nat.zero_le _) (u2 := 0) (Nat.zero_le _) (Nat.le_of_ble_eq_true rfl) (ctX7_good (m := r103) w105  ) (fun v106 h107 q108 => ?_)
          obtain ⟨rfl, rfl⟩ := q108
          refine am_if_eq dX7_number_60 (by decide : ((60 : Nat) : Int) + (7) = ((67 : Nat) : Int)) (fun c109 => ?_) (fun c109 => ?_)
          · have hs := hs.1 c109
            refine am_iload_n dX7_number_67 2 rfl ?_
            exact am_ireturn dX7_number_68 rfl rfl ⟨_, ifn c4 (ifn c20 (bnd_eq e61 (ifn c66 (ifp c81 (bnd_eq e97 (bnd_eq e104 (ifp c109 (rfl)))))))), rfl, w105⟩
          · have hs := hs.2 c109
            refine am_iload_n dX7_number_63 0 rfl ?_
            refine am_goto dX7_number_64 (by decide : ((64 : Nat) : Int) + (4) = ((68 : Nat) : Int)) ?_
            exact am_ireturn dX7_number_68 rfl rfl ⟨_, ifn c4 (ifn c20 (bnd_eq e61 (ifn c66 (ifp c81 (bnd_eq e97 (bnd_eq e104 (ifn c109 (rfl)))))))), rfl, w105⟩

theorem dX7_packed_0 : decode cX7_packed 0 = .ok (.iconst 0, 1) := by decide +kernel
theorem dX7_packed_1 : decode cX7_packed 1 = .ok (.istore_n 1, 1) := by decide +kernel
theorem dX7_packed_2 : decode cX7_packed 2 = .ok (.iconst 0, 1) := by decide +kernel
theorem dX7_packed_3 : decode cX7_packed 3 = .ok (.istore_n 2, 1) := by decide +kernel
theorem dX7_packed_4 : decode cX7_packed 4 = .ok (.iload_n 2, 1) := by decide +kernel
theorem dX7_packed_5 : decode cX7_packed 5 = .ok (.bipush 6, 2) := by decide +kernel
theorem dX7_packed_7 : decode cX7_packed 7 = .ok (.if_icmp .ge 48, 3) := by decide +kernel
theorem dX7_packed_10 : decode cX7_packed 10 = .ok (.bipush 27, 2) := by decide +kernel
theorem dX7_packed_12 : decode cX7_packed 12 = .ok (.iload_n 1, 1) := by decide +kernel
theorem dX7_packed_13 : decode cX7_packed 13 = .ok (.imul, 1) := by decide +kernel
theorem dX7_packed_14 : decode cX7_packed 14 = .ok (.aload_n 0, 1) := by decide +kernel
theorem dX7_packed_15 : decode cX7_packed 15 = .ok (.getfield 233, 3) := by decide +kernel
theorem dX7_packed_18 : decode cX7_packed 18 = .ok (.iload_n 2, 1) := by decide +kernel
theorem dX7_packed_19 : decode cX7_packed 19 = .ok (.iadd, 1) := by decide +kernel
theorem dX7_packed_20 : decode cX7_packed 20 = .ok (.aload_n 0, 1) := by decide +kernel
theorem dX7_packed_21 : decode cX7_packed 21 = .ok (.getfield 239, 3) := by decide +kernel
theorem dX7_packed_24 : decode cX7_packed 24 = .ok (.if_icmp .ge 22, 3) := by decide +kernel
theorem dX7_packed_27 : decode cX7_packed 27 = .ok (.aload_n 0, 1) := by decide +kernel
theorem dX7_packed_28 : decode cX7_packed 28 = .ok (.getfield 38, 3) := by decide +kernel
theorem dX7_packed_31 : decode cX7_packed 31 = .ok (.aload_n 0, 1) := by decide +kernel
theorem dX7_packed_32 : decode cX7_packed 32 = .ok (.getfield 233, 3) := by decide +kernel
theorem dX7_packed_35 : decode cX7_packed 35 = .ok (.iload_n 2, 1) := by decide +kernel
theorem dX7_packed_36 : decode cX7_packed 36 = .ok (.iadd, 1) := by decide +kernel
theorem dX7_packed_37 : decode cX7_packed 37 = .ok (.baload, 1) := by decide +kernel
theorem dX7_packed_38 : decode cX7_packed 38 = .ok (.bipush 97, 2) := by decide +kernel
theorem dX7_packed_40 : decode cX7_packed 40 = .ok (.isub, 1) := by decide +kernel
theorem dX7_packed_41 : decode cX7_packed 41 = .ok (.iconst 1, 1) := by decide +kernel
theorem dX7_packed_42 : decode cX7_packed 42 = .ok (.iadd, 1) := by decide +kernel
theorem dX7_packed_43 : decode cX7_packed 43 = .ok (.goto 4, 3) := by decide +kernel
theorem dX7_packed_46 : decode cX7_packed 46 = .ok (.iconst 0, 1) := by decide +kernel
theorem dX7_packed_47 : decode cX7_packed 47 = .ok (.iadd, 1) := by decide +kernel
theorem dX7_packed_48 : decode cX7_packed 48 = .ok (.istore_n 1, 1) := by decide +kernel
theorem dX7_packed_49 : decode cX7_packed 49 = .ok (.iinc 2 1, 3) := by decide +kernel
theorem dX7_packed_52 : decode cX7_packed 52 = .ok (.goto (-48), 3) := by decide +kernel
theorem dX7_packed_55 : decode cX7_packed 55 = .ok (.iload_n 1, 1) := by decide +kernel
theorem dX7_packed_56 : decode cX7_packed 56 = .ok (.ireturn, 1) := by decide +kernel
def fX7_packed_4   (m : Md) : Nat → Int32 → Int32 → Int32 × Int32
  | 0, x2, x1 => (x2, x1)
  | fu + 1, x2, x1 => (if 6 ≤ x2 then (x2, x1) else (if (m.1 5) ≤ ((m.1 6) + x2) then (fX7_packed_4   m fu (x2 + 1) (((27 : Int32) * x1) + 0) ) else (fX7_packed_4   m fu (x2 + 1) (((27 : Int32) * x1) + ((((m.2.1 7) ((m.1 6) + x2).toNatClampNeg) - 97) + 1)) )))
def sX7_packed_4   (m : Md) : Nat → Int32 → Int32 → Prop
  | 0, _, _ => True
  | fu + 1, x2, x1 => ((6 ≤ x2 → True) ∧ (¬ 6 ≤ x2 → (((m.1 5) ≤ ((m.1 6) + x2) → (sX7_packed_4   m fu (x2 + 1) (((27 : Int32) * x1) + 0) )) ∧ (¬ (m.1 5) ≤ ((m.1 6) + x2) → (vp_in ((m.1 6) + x2) 1200 ∧ (sX7_packed_4   m fu (x2 + 1) (((27 : Int32) * x1) + ((((m.2.1 7) ((m.1 6) + x2).toNatClampNeg) - 97) + 1)) ))))))
set_option maxRecDepth 20000 in
theorem wX7_packed_4 {l : Launch} {G : GM} {K : Nat → Option va_E}    {h : List va_E} {m : Md} (hm : HM G K h m) {Q : Option Value → List va_E → Prop} : ∀ (fu : Nat) (x2 x1 : Int32) (iv : ivU 6 x2 fu) (hs : sX7_packed_4   m fu x2 x1 ) (kx : ∀ (r : Int32 × Int32), (fX7_packed_4   m fu x2 x1 ) = r → Tr l G mX7_packed 0 0 0 55 [(2, .int r.1), (1, .int r.2), (0, .ref (gz G + 221))] [] h Q), Tr l G mX7_packed 0 0 0 4 [(2, .int x2), (1, .int x1), (0, .ref (gz G + 221))] [] h Q := by
  intro fu
  induction fu with
  | zero => intro x2 x1 iv; intros; exact absurd iv ivU_0
  | succ fu ih =>
    intro x2 x1 iv hs    kx
    rw [sX7_packed_4] at hs
    refine am_iload_n dX7_packed_4 0 rfl ?_
    refine am_bipush (v := 6) dX7_packed_5 (by decide) ?_
    refine am_icmp_ge dX7_packed_7 (by decide : ((7 : Nat) : Int) + (48) = ((55 : Nat) : Int)) (fun c1 => ?_) (fun c1 => ?_)
    · have hs := hs.1 c1
      exact kx _ (ifp c1 (rfl))
    · have hs := hs.2 c1
      refine am_bipush (v := 27) dX7_packed_10 (by decide) ?_
      refine am_iload_n dX7_packed_12 1 rfl ?_
      refine am_imul dX7_packed_13 ?_
      refine am_aload_n dX7_packed_14 2 rfl ?_
      refine am_get (v := .int (m.1 6)) dX7_packed_15 kGX7_233 (hmc221 (m := m) hm) rfl ?_
      refine am_iload_n dX7_packed_18 0 rfl ?_
      refine am_iadd dX7_packed_19 ?_
      refine am_aload_n dX7_packed_20 2 rfl ?_
      refine am_get (v := .int (m.1 5)) dX7_packed_21 kGX7_239 (hmc221 (m := m) hm) rfl ?_
      refine am_icmp_ge dX7_packed_24 (by decide : ((24 : Nat) : Int) + (22) = ((46 : Nat) : Int)) (fun c2 => ?_) (fun c2 => ?_)
      · have hs := hs.1 c2
        refine am_iconst (v := 0) dX7_packed_46 (by decide) ?_
        refine am_iadd dX7_packed_47 ?_
        refine am_istore_n dX7_packed_48 (by decide) (lv' := [(1, .int (((27 : Int32) * x1) + 0)), (2, .int x2), (0, .ref (gz G + 221))]) rfl ?_
        refine am_iinc (v := (x2 + 1)) dX7_packed_49 1 rfl rfl (by decide) (lv' := [(2, .int (x2 + 1)), (1, .int (((27 : Int32) * x1) + 0)), (0, .ref (gz G + 221))]) rfl ?_
        refine am_goto dX7_packed_52 (by decide : ((52 : Nat) : Int) + (-48) = ((4 : Nat) : Int)) ?_
        exact ih (x2 + 1) (((27 : Int32) * x1) + 0) (ivU_s c1 iv) hs (fun r e => kx r (Eq.trans (ifn c1 (ifp c2 (rfl))) e))
      · have hs := hs.2 c2
        refine am_aload_n dX7_packed_27 2 rfl ?_
        refine am_get (v := .ref (gz G + 229)) dX7_packed_28 kGX7_38 (hmc221 (m := m) hm) rfl ?_
        refine am_aload_n dX7_packed_31 2 rfl ?_
        refine am_get (v := .int (m.1 6)) dX7_packed_32 kGX7_233 (hmc221 (m := m) hm) rfl ?_
        refine am_iload_n dX7_packed_35 0 rfl ?_
        refine am_iadd dX7_packed_36 ?_
        obtain ⟨i3, hs⟩ := hs
        refine am_bald (f := (m.2.1 7)) dX7_packed_37 (hmc229 (m := m) hm) i3 ?_
        refine am_bipush (v := 97) dX7_packed_38 (by decide) ?_
        refine am_isub dX7_packed_40 ?_
        refine am_iconst (v := 1) dX7_packed_41 (by decide) ?_
        refine am_iadd dX7_packed_42 ?_
        refine am_goto dX7_packed_43 (by decide : ((43 : Nat) : Int) + (4) = ((47 : Nat) : Int)) ?_
        refine am_iadd dX7_packed_47 ?_
        refine am_istore_n dX7_packed_48 (by decide) (lv' := [(1, .int (((27 : Int32) * x1) + ((((m.2.1 7) ((m.1 6) + x2).toNatClampNeg) - 97) + 1))), (2, .int x2), (0, .ref (gz G + 221))]) rfl ?_
        refine am_iinc (v := (x2 + 1)) dX7_packed_49 1 rfl rfl (by decide) (lv' := [(2, .int (x2 + 1)), (1, .int (((27 : Int32) * x1) + ((((m.2.1 7) ((m.1 6) + x2).toNatClampNeg) - 97) + 1))), (0, .ref (gz G + 221))]) rfl ?_
        refine am_goto dX7_packed_52 (by decide : ((52 : Nat) : Int) + (-48) = ((4 : Nat) : Int)) ?_
        exact ih (x2 + 1) (((27 : Int32) * x1) + ((((m.2.1 7) ((m.1 6) + x2).toNatClampNeg) - 97) + 1)) (ivU_s c1 iv) hs (fun r e => kx r (Eq.trans (ifn c1 (ifn c2 (rfl))) e))
def fX7_packed (m : Md)  : Int32 := (bnd (fX7_packed_4   m (fuU 6 0) 0 0 ) (fun r5 => r5.2))
def sX7_packed (m : Md)  : Prop := ((sX7_packed_4   m (fuU 6 0) 0 0 ) ∧ bnd (fX7_packed_4   m (fuU 6 0) 0 0 ) (fun r5 => True))
set_option maxRecDepth 20000 in
theorem ctX7_packed {l : Launch} {G : GM} {K : Nat → Option va_E} {h : List va_E} {m : Md} (hm : HM G K h m)  (hs : sX7_packed m ) : Ct l G mX7_packed 0 0 0 [.ref (gz G + 221)] h (fun v h1 => v = some (.int (fX7_packed m )) ∧ h1 = h) := by
  show Tr l G mX7_packed 0 0 0 0 [(0, .ref (gz G + 221))] [] h _
  unfold sX7_packed at hs
  refine am_iconst (v := 0) dX7_packed_0 (by decide) ?_
  refine am_istore_n dX7_packed_1 (by decide) (lv' := [(1, .int 0), (0, .ref (gz G + 221))]) rfl ?_
  refine am_iconst (v := 0) dX7_packed_2 (by decide) ?_
  refine am_istore_n dX7_packed_3 (by decide) (lv' := [(2, .int 0), (1, .int 0), (0, .ref (gz G + 221))]) rfl ?_
  obtain ⟨i4, hs⟩ := hs
  refine wX7_packed_4    hm (fuU 6 0) 0 0 ivU_i i4 (fun r5 e6 => ?_)
  have hs := bnd_p e6 hs
  refine am_iload_n dX7_packed_55 1 rfl ?_
  rw [show (fX7_packed m ) = r5.2 from bnd_eq e6 (rfl)]
  exact am_ireturn dX7_packed_56 rfl rfl ⟨rfl, rfl⟩

theorem dX7_nameHere_0 : decode cX7_nameHere 0 = .ok (.aload_n 0, 1) := by decide +kernel
theorem dX7_nameHere_1 : decode cX7_nameHere 1 = .ok (.invokevirtual 229, 3) := by decide +kernel
theorem dX7_nameHere_4 : decode cX7_nameHere 4 = .ok (.ifCond .eq 37, 3) := by decide +kernel
theorem dX7_nameHere_7 : decode cX7_nameHere 7 = .ok (.aload_n 0, 1) := by decide +kernel
theorem dX7_nameHere_8 : decode cX7_nameHere 8 = .ok (.getfield 245, 3) := by decide +kernel
theorem dX7_nameHere_11 : decode cX7_nameHere 11 = .ok (.iconst 1, 1) := by decide +kernel
theorem dX7_nameHere_12 : decode cX7_nameHere 12 = .ok (.if_icmp .ne 24, 3) := by decide +kernel
theorem dX7_nameHere_15 : decode cX7_nameHere 15 = .ok (.aload_n 0, 1) := by decide +kernel
theorem dX7_nameHere_16 : decode cX7_nameHere 16 = .ok (.getfield 239, 3) := by decide +kernel
theorem dX7_nameHere_19 : decode cX7_nameHere 19 = .ok (.aload_n 0, 1) := by decide +kernel
theorem dX7_nameHere_20 : decode cX7_nameHere 20 = .ok (.getfield 233, 3) := by decide +kernel
theorem dX7_nameHere_23 : decode cX7_nameHere 23 = .ok (.isub, 1) := by decide +kernel
theorem dX7_nameHere_24 : decode cX7_nameHere 24 = .ok (.bipush 6, 2) := by decide +kernel
theorem dX7_nameHere_26 : decode cX7_nameHere 26 = .ok (.if_icmp .gt 10, 3) := by decide +kernel
theorem dX7_nameHere_29 : decode cX7_nameHere 29 = .ok (.aload_n 0, 1) := by decide +kernel
theorem dX7_nameHere_30 : decode cX7_nameHere 30 = .ok (.invokevirtual 306, 3) := by decide +kernel
theorem dX7_nameHere_33 : decode cX7_nameHere 33 = .ok (.ifCond .eq 8, 3) := by decide +kernel
theorem dX7_nameHere_36 : decode cX7_nameHere 36 = .ok (.aload_n 0, 1) := by decide +kernel
theorem dX7_nameHere_37 : decode cX7_nameHere 37 = .ok (.iconst 1, 1) := by decide +kernel
theorem dX7_nameHere_38 : decode cX7_nameHere 38 = .ok (.invokevirtual 300, 3) := by decide +kernel
theorem dX7_nameHere_41 : decode cX7_nameHere 41 = .ok (.aload_n 0, 1) := by decide +kernel
theorem dX7_nameHere_42 : decode cX7_nameHere 42 = .ok (.invokevirtual 229, 3) := by decide +kernel
theorem dX7_nameHere_45 : decode cX7_nameHere 45 = .ok (.ifCond .eq 10, 3) := by decide +kernel
theorem dX7_nameHere_48 : decode cX7_nameHere 48 = .ok (.aload_n 0, 1) := by decide +kernel
theorem dX7_nameHere_49 : decode cX7_nameHere 49 = .ok (.invokevirtual 309, 3) := by decide +kernel
theorem dX7_nameHere_52 : decode cX7_nameHere 52 = .ok (.goto 4, 3) := by decide +kernel
theorem dX7_nameHere_55 : decode cX7_nameHere 55 = .ok (.iconst 0, 1) := by decide +kernel
theorem dX7_nameHere_56 : decode cX7_nameHere 56 = .ok (.ireturn, 1) := by decide +kernel
def fX7_nameHere (m : Md)  : Int32 × Md := (if (fX7_good m ) = 0 then (0, m) else (if (m.1 7) = 1 then (if 6 < ((m.1 5) - (m.1 6)) then (bnd (fX7_fail m 1) (fun r28 => (if (fX7_good r28 ) = 0 then (0, r28) else ((fX7_packed r28 ), r28)))) else (if (fX7_isKeyword m ) = 0 then ((fX7_packed m ), m) else (bnd (fX7_fail m 1) (fun r55 => (if (fX7_good r55 ) = 0 then (0, r55) else ((fX7_packed r55 ), r55)))))) else (bnd (fX7_fail m 1) (fun r13 => (if (fX7_good r13 ) = 0 then (0, r13) else ((fX7_packed r13 ), r13))))))
def sX7_nameHere (m : Md)  : Prop := (((fX7_good m ) = 0 → True) ∧ (¬ (fX7_good m ) = 0 → (((m.1 7) = 1 → ((6 < ((m.1 5) - (m.1 6)) → (bnd (fX7_fail m 1) (fun r28 => (((fX7_good r28 ) = 0 → True) ∧ (¬ (fX7_good r28 ) = 0 → ((sX7_packed r28 ) ∧ True)))))) ∧ (¬ 6 < ((m.1 5) - (m.1 6)) → ((sX7_isKeyword m ) ∧ (((fX7_isKeyword m ) = 0 → ((sX7_packed m ) ∧ True)) ∧ (¬ (fX7_isKeyword m ) = 0 → (bnd (fX7_fail m 1) (fun r55 => (((fX7_good r55 ) = 0 → True) ∧ (¬ (fX7_good r55 ) = 0 → ((sX7_packed r55 ) ∧ True))))))))))) ∧ (¬ (m.1 7) = 1 → (bnd (fX7_fail m 1) (fun r13 => (((fX7_good r13 ) = 0 → True) ∧ (¬ (fX7_good r13 ) = 0 → ((sX7_packed r13 ) ∧ True)))))))))
set_option maxRecDepth 20000 in
theorem ctX7_nameHere {l : Launch} {G : GM} {K : Nat → Option va_E} {h : List va_E} {m : Md} (hm : HM G K h m)  (hs : sX7_nameHere m ) : Ct l G mX7_nameHere 7 0 0 [.ref (gz G + 221)] h (fun v h1 => ∃ r, (fX7_nameHere m ) = r ∧ v = some (.int r.1) ∧ HM G K h1 r.2) := by
  show Tr l G mX7_nameHere 7 0 0 0 [(0, .ref (gz G + 221))] [] h _
  unfold sX7_nameHere at hs
  refine am_aload_n dX7_nameHere_0 0 rfl ?_
  refine am_callV (As := []) (rest := []) dX7_nameHere_1 kMX7_229 rfl (hmc221 (m := m) hm) rfl rfl (Nat.le_of_ble_eq_true rfl) (d2 := 0) (by decide) (k2 := 0) (Nat.zero_le _) (u2 := 0) (Nat.zero_le _) (Nat.le_of_ble_eq_true rfl) (ctX7_good (m := m) hm  ) (fun v1 h2 q3 => ?_)
  obtain ⟨rfl, rfl⟩ := q3
  refine am_if_eq dX7_nameHere_4 (by decide : ((4 : Nat) : Int) + (37) = ((41 : Nat) : Int)) (fun c4 => ?_) (fun c4 => ?_)
  · have hs := hs.1 c4
    refine am_aload_n dX7_nameHere_41 0 rfl ?_
    refine am_callV (As := []) (rest := []) dX7_nameHere_42 kMX7_229 rfl (hmc221 (m := m) hm) rfl rfl (Nat.le_of_ble_eq_true rfl) (d2 := 0) (by decide) (k2 := 0) (Nat.zero_le _) (u2 := 0) (Nat.zero_le _) (Nat.le_of_ble_eq_true rfl) (ctX7_good (m := m) hm  ) (fun v5 h6 q7 => ?_)
    obtain ⟨rfl, rfl⟩ := q7
    refine am_if_eq dX7_nameHere_45 (by decide : ((45 : Nat) : Int) + (10) = ((55 : Nat) : Int)) (fun _ => ?_) (fun q => absurd c4 q)
    refine am_iconst (v := 0) dX7_nameHere_55 (by decide) ?_
    exact am_ireturn dX7_nameHere_56 rfl rfl ⟨_, ifp c4 (rfl), rfl, hm⟩
  · have hs := hs.2 c4
    refine am_aload_n dX7_nameHere_7 0 rfl ?_
    refine am_get (v := .int (m.1 7)) dX7_nameHere_8 kGX7_245 (hmc221 (m := m) hm) rfl ?_
    refine am_iconst (v := 1) dX7_nameHere_11 (by decide) ?_
    refine am_icmp_ne dX7_nameHere_12 (by decide : ((12 : Nat) : Int) + (24) = ((36 : Nat) : Int)) (fun c9 => ?_) (fun c9 => ?_)
    · have hs := hs.2 c9
      refine am_aload_n dX7_nameHere_36 0 rfl ?_
      refine am_iconst (v := 1) dX7_nameHere_37 (by decide) ?_
      refine am_callV (As := [.int 1]) (rest := []) dX7_nameHere_38 kMX7_300 rfl (hmc221 (m := m) hm) rfl rfl (Nat.le_of_ble_eq_true rfl) (d2 := 1) (by decide) (k2 := 0) (Nat.zero_le _) (u2 := 0) (Nat.zero_le _) (Nat.le_of_ble_eq_true rfl) (ctX7_fail (m := m) hm 1 ) (fun v10 h11 q12 => ?_)
      obtain ⟨r13, e14, rfl, w15⟩ := q12
      have hs := bnd_p e14 hs
      refine am_aload_n dX7_nameHere_41 0 rfl ?_
      refine am_callV (As := []) (rest := []) dX7_nameHere_42 kMX7_229 rfl (hmc221 (m := r13) w15) rfl rfl (Nat.le_of_ble_eq_true rfl) (d2 := 0) (by decide) (k2 := 0) (Nat.zero_le _) (u2 := 0) (Nat.zero_le _) (Nat.le_of_ble_eq_true rfl) (ctX7_good (m := r13) w15  ) (fun v16 h17 q18 => ?_)
      obtain ⟨rfl, rfl⟩ := q18
      refine am_if_eq dX7_nameHere_45 (by decide : ((45 : Nat) : Int) + (10) = ((55 : Nat) : Int)) (fun c19 => ?_) (fun c19 => ?_)
      · have hs := hs.1 c19
        refine am_iconst (v := 0) dX7_nameHere_55 (by decide) ?_
        exact am_ireturn dX7_nameHere_56 rfl rfl ⟨_, ifn c4 (ifn c9 (bnd_eq e14 (ifp c19 (rfl)))), rfl, w15⟩
      · have hs := hs.2 c19
        refine am_aload_n dX7_nameHere_48 0 rfl ?_
        obtain ⟨i20, hs⟩ := hs
        refine am_callV (As := []) (rest := []) dX7_nameHere_49 kMX7_309 rfl (hmc221 (m := r13) w15) rfl rfl (Nat.le_of_ble_eq_true rfl) (d2 := 0) (by decide) (k2 := 0) (Nat.zero_le _) (u2 := 0) (Nat.zero_le _) (Nat.le_of_ble_eq_true rfl) (ctX7_packed (m := r13) w15  i20) (fun v21 h22 q23 => ?_)
        obtain ⟨rfl, rfl⟩ := q23
        refine am_goto dX7_nameHere_52 (by decide : ((52 : Nat) : Int) + (4) = ((56 : Nat) : Int)) ?_
        exact am_ireturn dX7_nameHere_56 rfl rfl ⟨_, ifn c4 (ifn c9 (bnd_eq e14 (ifn c19 (rfl)))), rfl, w15⟩
    · have hs := hs.1 c9
      refine am_aload_n dX7_nameHere_15 0 rfl ?_
      refine am_get (v := .int (m.1 5)) dX7_nameHere_16 kGX7_239 (hmc221 (m := m) hm) rfl ?_
      refine am_aload_n dX7_nameHere_19 0 rfl ?_
      refine am_get (v := .int (m.1 6)) dX7_nameHere_20 kGX7_233 (hmc221 (m := m) hm) rfl ?_
      refine am_isub dX7_nameHere_23 ?_
      refine am_bipush (v := 6) dX7_nameHere_24 (by decide) ?_
      refine am_icmp_gt dX7_nameHere_26 (by decide : ((26 : Nat) : Int) + (10) = ((36 : Nat) : Int)) (fun c24 => ?_) (fun c24 => ?_)
      · have hs := hs.1 c24
        refine am_aload_n dX7_nameHere_36 0 rfl ?_
        refine am_iconst (v := 1) dX7_nameHere_37 (by decide) ?_
        refine am_callV (As := [.int 1]) (rest := []) dX7_nameHere_38 kMX7_300 rfl (hmc221 (m := m) hm) rfl rfl (Nat.le_of_ble_eq_true rfl) (d2 := 1) (by decide) (k2 := 0) (Nat.zero_le _) (u2 := 0) (Nat.zero_le _) (Nat.le_of_ble_eq_true rfl) (ctX7_fail (m := m) hm 1 ) (fun v25 h26 q27 => ?_)
        obtain ⟨r28, e29, rfl, w30⟩ := q27
        have hs := bnd_p e29 hs
        refine am_aload_n dX7_nameHere_41 0 rfl ?_
        refine am_callV (As := []) (rest := []) dX7_nameHere_42 kMX7_229 rfl (hmc221 (m := r28) w30) rfl rfl (Nat.le_of_ble_eq_true rfl) (d2 := 0) (by decide) (k2 := 0) (Nat.zero_le _) (u2 := 0) (Nat.zero_le _) (Nat.le_of_ble_eq_true rfl) (ctX7_good (m := r28) w30  ) (fun v31 h32 q33 => ?_)
        obtain ⟨rfl, rfl⟩ := q33
        refine am_if_eq dX7_nameHere_45 (by decide : ((45 : Nat) : Int) + (10) = ((55 : Nat) : Int)) (fun c34 => ?_) (fun c34 => ?_)
        · have hs := hs.1 c34
          refine am_iconst (v := 0) dX7_nameHere_55 (by decide) ?_
          exact am_ireturn dX7_nameHere_56 rfl rfl ⟨_, ifn c4 (ifp c9 (ifp c24 (bnd_eq e29 (ifp c34 (rfl))))), rfl, w30⟩
        · have hs := hs.2 c34
          refine am_aload_n dX7_nameHere_48 0 rfl ?_
          obtain ⟨i35, hs⟩ := hs
          refine am_callV (As := []) (rest := []) dX7_nameHere_49 kMX7_309 rfl (hmc221 (m := r28) w30) rfl rfl (Nat.le_of_ble_eq_true rfl) (d2 := 0) (by decide) (k2 := 0) (Nat.zero_le _) (u2 := 0) (Nat.zero_le _) (Nat.le_of_ble_eq_true rfl) (ctX7_packed (m := r28) w30  i35) (fun v36 h37 q38 => ?_)
          obtain ⟨rfl, rfl⟩ := q38
          refine am_goto dX7_nameHere_52 (by decide : ((52 : Nat) : Int) + (4) = ((56 : Nat) : Int)) ?_
          exact am_ireturn dX7_nameHere_56 rfl rfl ⟨_, ifn c4 (ifp c9 (ifp c24 (bnd_eq e29 (ifn c34 (rfl))))), rfl, w30⟩
      · have hs := hs.2 c24
        refine am_aload_n dX7_nameHere_29 0 rfl ?_
        obtain ⟨i39, hs⟩ := hs
        refine am_callV (As := []) (rest := []) dX7_nameHere_30 kMX7_306 rfl (hmc221 (m := m) hm) rfl rfl (Nat.le_of_ble_eq_true rfl) (d2 := 6) (by decide) (k2 := 0) (Nat.zero_le _) (u2 := 0) (Nat.zero_le _) (Nat.le_of_ble_eq_true rfl) (ctX7_isKeyword (m := m) hm  i39) (fun v40 h41 q42 => ?_)
        obtain ⟨rfl, rfl⟩ := q42
        refine am_if_eq dX7_nameHere_33 (by decide : ((33 : Nat) : Int) + (8) = ((41 : Nat) : Int)) (fun c43 => ?_) (fun c43 => ?_)
        · have hs := hs.1 c43
          refine am_aload_n dX7_nameHere_41 0 rfl ?_
          refine am_callV (As := []) (rest := []) dX7_nameHere_42 kMX7_229 rfl (hmc221 (m := m) hm) rfl rfl (Nat.le_of_ble_eq_true rfl) (d2 := 0) (by decide) (k2 := 0) (Nat.zero_le _) (u2 := 0) (Nat.zero_le _) (Nat.le_of_ble_eq_true rfl) (ctX7_good (m := m) hm  ) (fun v44 h45 q46 => ?_)
          obtain ⟨rfl, rfl⟩ := q46
          refine am_if_eq dX7_nameHere_45 (by decide : ((45 : Nat) : Int) + (10) = ((55 : Nat) : Int)) (fun q => absurd q c4) (fun _ => ?_)
          refine am_aload_n dX7_nameHere_48 0 rfl ?_
          obtain ⟨i48, hs⟩ := hs
          refine am_callV (As := []) (rest := []) dX7_nameHere_49 kMX7_309 rfl (hmc221 (m := m) hm) rfl rfl (Nat.le_of_ble_eq_true rfl) (d2 := 0) (by decide) (k2 := 0) (Nat.zero_le _) (u2 := 0) (Nat.zero_le _) (Nat.le_of_ble_eq_true rfl) (ctX7_packed (m := m) hm  i48) (fun v49 h50 q51 => ?_)
          obtain ⟨rfl, rfl⟩ := q51
          refine am_goto dX7_nameHere_52 (by decide : ((52 : Nat) : Int) + (4) = ((56 : Nat) : Int)) ?_
          exact am_ireturn dX7_nameHere_56 rfl rfl ⟨_, ifn c4 (ifp c9 (ifn c24 (ifp c43 (rfl)))), rfl, hm⟩
        · have hs := hs.2 c43
          refine am_aload_n dX7_nameHere_36 0 rfl ?_
          refine am_iconst (v := 1) dX7_nameHere_37 (by decide) ?_
          refine am_callV (As := [.int 1]) (rest := []) dX7_nameHere_38 kMX7_300 rfl (hmc221 (m := m) hm) rfl rfl (Nat.le_of_ble_eq_true rfl) (d2 := 1) (by decide) (k2 := 0) (Nat.zero_le _) (u2 := 0) (Nat.zero_le _) (Nat.le_of_ble_eq_true rfl) (ctX7_fail (m := m) hm 1 ) (fun v52 h53 q54 => ?_)
          obtain ⟨r55, e56, rfl, w57⟩ := q54
          have hs := bnd_p e56 hs
          refine am_aload_n dX7_nameHere_41 0 rfl ?_
          refine am_callV (As := []) (rest := []) dX7_nameHere_42 kMX7_229 rfl (hmc221 (m := r55) w57) rfl rfl (Nat.le_of_ble_eq_true rfl) (d2 := 0) (by decide) (k2 := 0) (Nat.zero_le _) (u2 := 0) (Nat.zero_le _) (Nat.le_of_ble_eq_true rfl) (ctX7_good (m := r55) w57  ) (fun v58 h59 q60 => ?_)
          obtain ⟨rfl, rfl⟩ := q60
          refine am_if_eq dX7_nameHere_45 (by decide : ((45 : Nat) : Int) + (10) = ((55 : Nat) : Int)) (fun c61 => ?_) (fun c61 => ?_)
          · have hs := hs.1 c61
            refine am_iconst (v := 0) dX7_nameHere_55 (by decide) ?_
            exact am_ireturn dX7_nameHere_56 rfl rfl ⟨_, ifn c4 (ifp c9 (ifn c24 (ifn c43 (bnd_eq e56 (ifp c61 (rfl)))))), rfl, w57⟩
          · have hs := hs.2 c61
            refine am_aload_n dX7_nameHere_48 0 rfl ?_
            obtain ⟨i62, hs⟩ := hs
            refine am_callV (As := []) (rest := []) dX7_nameHere_49 kMX7_309 rfl (hmc221 (m := r55) w57) rfl rfl (Nat.le_of_ble_eq_true rfl) (d2 := 0) (by decide) (k2 := 0) (Nat.zero_le _) (u2 := 0) (Nat.zero_le _) (Nat.le_of_ble_eq_true rfl) (ctX7_packed (m := r55) w57  i62) (fun v63 h64 q65 => ?_)
            obtain ⟨rfl, rfl⟩ := q65
            refine am_goto dX7_nameHere_52 (by decide : ((52 : Nat) : Int) + (4) = ((56 : Nat) : Int)) ?_
            exact am_ireturn dX7_nameHere_56 rfl rfl ⟨_, ifn c4 (ifp c9 (ifn c24 (ifn c43 (bnd_eq e56 (ifn c61 (rfl)))))), rfl, w57⟩

theorem dX7_findIn_0 : decode cX7_findIn 0 = .ok (.iconst 0, 1) := by decide +kernel
theorem dX7_findIn_1 : decode cX7_findIn 1 = .ok (.istore 5, 2) := by decide +kernel
theorem dX7_findIn_3 : decode cX7_findIn 3 = .ok (.iload 5, 2) := by decide +kernel
theorem dX7_findIn_5 : decode cX7_findIn 5 = .ok (.iload_n 3, 1) := by decide +kernel
theorem dX7_findIn_6 : decode cX7_findIn 6 = .ok (.if_icmp .ge 28, 3) := by decide +kernel
theorem dX7_findIn_9 : decode cX7_findIn 9 = .ok (.aload_n 0, 1) := by decide +kernel
theorem dX7_findIn_10 : decode cX7_findIn 10 = .ok (.getfield 23, 3) := by decide +kernel
theorem dX7_findIn_13 : decode cX7_findIn 13 = .ok (.iload_n 1, 1) := by decide +kernel
theorem dX7_findIn_14 : decode cX7_findIn 14 = .ok (.iload_n 2, 1) := by decide +kernel
theorem dX7_findIn_15 : decode cX7_findIn 15 = .ok (.iload 5, 2) := by decide +kernel
theorem dX7_findIn_17 : decode cX7_findIn 17 = .ok (.imul, 1) := by decide +kernel
theorem dX7_findIn_18 : decode cX7_findIn 18 = .ok (.iadd, 1) := by decide +kernel
theorem dX7_findIn_19 : decode cX7_findIn 19 = .ok (.iaload, 1) := by decide +kernel
theorem dX7_findIn_20 : decode cX7_findIn 20 = .ok (.iload 4, 2) := by decide +kernel
theorem dX7_findIn_22 : decode cX7_findIn 22 = .ok (.if_icmp .ne 6, 3) := by decide +kernel
theorem dX7_findIn_25 : decode cX7_findIn 25 = .ok (.iload 5, 2) := by decide +kernel
theorem dX7_findIn_27 : decode cX7_findIn 27 = .ok (.ireturn, 1) := by decide +kernel
theorem dX7_findIn_28 : decode cX7_findIn 28 = .ok (.iinc 5 1, 3) := by decide +kernel
theorem dX7_findIn_31 : decode cX7_findIn 31 = .ok (.goto (-28), 3) := by decide +kernel
theorem dX7_findIn_34 : decode cX7_findIn 34 = .ok (.iconst (-1), 1) := by decide +kernel
theorem dX7_findIn_35 : decode cX7_findIn 35 = .ok (.ireturn, 1) := by decide +kernel
def fX7_findIn_3 (z1 : Int32) (z2 : Int32) (z3 : Int32) (z4 : Int32)  (m : Md) : Nat → Int32 → Int32
  | 0, _ => 0
  | fu + 1, x5 => (if z3 ≤ x5 then (-1) else (if ((m.2.1 (m.2.2)) (z1 + (z2 * x5)).toNatClampNeg) = z4 then x5 else (fX7_findIn_3 z1 z2 z3 z4  m fu (x5 + 1) )))
def sX7_findIn_3 (z1 : Int32) (z2 : Int32) (z3 : Int32) (z4 : Int32)  (m : Md) : Nat → Int32 → Prop
  | 0, _ => True
  | fu + 1, x5 => ((z3 ≤ x5 → True) ∧ (¬ z3 ≤ x5 → (vp_in (z1 + (z2 * x5)) 146 ∧ ((((m.2.1 (m.2.2)) (z1 + (z2 * x5)).toNatClampNeg) = z4 → True) ∧ (¬ ((m.2.1 (m.2.2)) (z1 + (z2 * x5)).toNatClampNeg) = z4 → (sX7_findIn_3 z1 z2 z3 z4  m fu (x5 + 1) ))))))
set_option maxRecDepth 20000 in
theorem wX7_findIn_3 {l : Launch} {G : GM} {K : Nat → Option va_E} (z1 : Int32) (z2 : Int32) (z3 : Int32) (z4 : Int32)   {h : List va_E} {m : Md} (hm : HM G K h m) : ∀ (fu : Nat) (x5 : Int32) (iv : ivU z3 x5 fu) (hs : sX7_findIn_3 z1 z2 z3 z4  m fu x5 ), Tr l G mX7_findIn 0 0 0 3 [(5, .int x5), (0, .ref (gz G + 221)), (1, .int z1), (2, .int z2), (3, .int z3), (4, .int z4)] [] h (fun v h1 => v = some (.int (fX7_findIn_3 z1 z2 z3 z4  m fu x5 )) ∧ h1 = h) := by
  intro fu
  induction fu with
  | zero => intro x5 iv; intros; exact absurd iv ivU_0
  | succ fu ih =>
    intro x5 iv hs    
    rw [sX7_findIn_3] at hs
    refine am_iload dX7_findIn_3 0 rfl ?_
    refine am_iload_n dX7_findIn_5 4 rfl ?_
    refine am_icmp_ge dX7_findIn_6 (by decide : ((6 : Nat) : Int) + (28) = ((34 : Nat) : Int)) (fun c1 => ?_) (fun c1 => ?_)
    · have hs := hs.1 c1
      refine am_iconst (v := (-1)) dX7_findIn_34 (by decide) ?_
      rw [show (fX7_findIn_3 z1 z2 z3 z4  m (fu + 1) x5 ) = (-1) from ifp c1 (rfl)]
      exact am_ireturn dX7_findIn_35 rfl rfl ⟨rfl, rfl⟩
    · have hs := hs.2 c1
      refine am_aload_n dX7_findIn_9 1 rfl ?_
      refine am_get (v := .ref (gz G + (222 + (m.2.2)))) dX7_findIn_10 kGX7_23 (hmc221 (m := m) hm) rfl ?_
      refine am_iload_n dX7_findIn_13 2 rfl ?_
      refine am_iload_n dX7_findIn_14 3 rfl ?_
      refine am_iload dX7_findIn_15 0 rfl ?_
      refine am_imul dX7_findIn_17 ?_
      refine am_iadd dX7_findIn_18 ?_
      obtain ⟨i2, hs⟩ := hs
      refine am_iald (f := (m.2.1 (m.2.2))) dX7_findIn_19 (hmN (m := m) hm) i2 ?_
      refine am_iload dX7_findIn_20 5 rfl ?_
      refine am_icmp_ne dX7_findIn_22 (by decide : ((22 : Nat) : Int) + (6) = ((28 : Nat) : Int)) (fun c3 => ?_) (fun c3 => ?_)
      · have hs := hs.2 c3
        refine am_iinc (v := (x5 + 1)) dX7_findIn_28 0 rfl rfl (by decide) (lv' := [(5, .int (x5 + 1)), (0, .ref (gz G + 221)), (1, .int z1), (2, .int z2), (3, .int z3), (4, .int z4)]) rfl ?_
        refine am_goto dX7_findIn_31 (by decide : ((31 : Nat) : Int) + (-28) = ((3 : Nat) : Int)) ?_
        rw [show (fX7_findIn_3 z1 z2 z3 z4  m (fu + 1) x5 ) = (fX7_findIn_3 z1 z2 z3 z4  m fu (x5 + 1) ) from ifn c1 (ifn c3 (rfl))]
        exact ih (x5 + 1) (ivU_s c1 iv) hs 
      · have hs := hs.1 c3
        refine am_iload dX7_findIn_25 0 rfl ?_
        rw [show (fX7_findIn_3 z1 z2 z3 z4  m (fu + 1) x5 ) = x5 from ifn c1 (ifp c3 (rfl))]
        exact am_ireturn dX7_findIn_27 rfl rfl ⟨rfl, rfl⟩
def fX7_findIn (m : Md) (z1 : Int32) (z2 : Int32) (z3 : Int32) (z4 : Int32) : Int32 := (fX7_findIn_3 z1 z2 z3 z4  m (fuU z3 0) 0 )
def sX7_findIn (m : Md) (z1 : Int32) (z2 : Int32) (z3 : Int32) (z4 : Int32) : Prop := (sX7_findIn_3 z1 z2 z3 z4  m (fuU z3 0) 0 )
set_option maxRecDepth 20000 in
theorem ctX7_findIn {l : Launch} {G : GM} {K : Nat → Option va_E} {h : List va_E} {m : Md} (hm : HM G K h m) (z1 : Int32) (z2 : Int32) (z3 : Int32) (z4 : Int32) (hs : sX7_findIn m z1 z2 z3 z4) : Ct l G mX7_findIn 0 0 0 [.ref (gz G + 221), .int z1, .int z2, .int z3, .int z4] h (fun v h1 => v = some (.int (fX7_findIn m z1 z2 z3 z4)) ∧ h1 = h) := by
  show Tr l G mX7_findIn 0 0 0 0 [(0, .ref (gz G + 221)), (1, .int z1), (2, .int z2), (3, .int z3), (4, .int z4)] [] h _
  unfold sX7_findIn at hs
  refine am_iconst (v := 0) dX7_findIn_0 (by decide) ?_
  refine am_istore dX7_findIn_1 (by decide) (lv' := [(5, .int 0), (0, .ref (gz G + 221)), (1, .int z1), (2, .int z2), (3, .int z3), (4, .int z4)]) rfl ?_
  rw [show (fX7_findIn m z1 z2 z3 z4) = (fX7_findIn_3 z1 z2 z3 z4  m (fuU z3 0) 0 ) from rfl]
  exact wX7_findIn_3 z1 z2 z3 z4   hm (fuU z3 0) 0 ivU_i hs

theorem dX7_newName_0 : decode cX7_newName 0 = .ok (.aload_n 0, 1) := by decide +kernel
theorem dX7_newName_1 : decode cX7_newName 1 = .ok (.invokevirtual 312, 3) := by decide +kernel
theorem dX7_newName_4 : decode cX7_newName 4 = .ok (.istore 4, 2) := by decide +kernel
theorem dX7_newName_6 : decode cX7_newName 6 = .ok (.aload_n 0, 1) := by decide +kernel
theorem dX7_newName_7 : decode cX7_newName 7 = .ok (.invokevirtual 229, 3) := by decide +kernel
theorem dX7_newName_10 : decode cX7_newName 10 = .ok (.ifCond .eq 26, 3) := by decide +kernel
theorem dX7_newName_13 : decode cX7_newName 13 = .ok (.aload_n 0, 1) := by decide +kernel
theorem dX7_newName_14 : decode cX7_newName 14 = .ok (.iload_n 1, 1) := by decide +kernel
theorem dX7_newName_15 : decode cX7_newName 15 = .ok (.iload_n 2, 1) := by decide +kernel
theorem dX7_newName_16 : decode cX7_newName 16 = .ok (.aload_n 0, 1) := by decide +kernel
theorem dX7_newName_17 : decode cX7_newName 17 = .ok (.getfield 23, 3) := by decide +kernel
theorem dX7_newName_20 : decode cX7_newName 20 = .ok (.iload_n 3, 1) := by decide +kernel
theorem dX7_newName_21 : decode cX7_newName 21 = .ok (.iaload, 1) := by decide +kernel
theorem dX7_newName_22 : decode cX7_newName 22 = .ok (.iload 4, 2) := by decide +kernel
theorem dX7_newName_24 : decode cX7_newName 24 = .ok (.invokevirtual 315, 3) := by decide +kernel
theorem dX7_newName_27 : decode cX7_newName 27 = .ok (.iconst (-1), 1) := by decide +kernel
theorem dX7_newName_28 : decode cX7_newName 28 = .ok (.if_icmp .eq 8, 3) := by decide +kernel
theorem dX7_newName_31 : decode cX7_newName 31 = .ok (.aload_n 0, 1) := by decide +kernel
theorem dX7_newName_32 : decode cX7_newName 32 = .ok (.iconst 3, 1) := by decide +kernel
theorem dX7_newName_33 : decode cX7_newName 33 = .ok (.invokevirtual 300, 3) := by decide +kernel
theorem dX7_newName_36 : decode cX7_newName 36 = .ok (.aload_n 0, 1) := by decide +kernel
theorem dX7_newName_37 : decode cX7_newName 37 = .ok (.invokevirtual 303, 3) := by decide +kernel
theorem dX7_newName_40 : decode cX7_newName 40 = .ok (.iload_n 1, 1) := by decide +kernel
theorem dX7_newName_41 : decode cX7_newName 41 = .ok (.iload_n 2, 1) := by decide +kernel
theorem dX7_newName_42 : decode cX7_newName 42 = .ok (.aload_n 0, 1) := by decide +kernel
theorem dX7_newName_43 : decode cX7_newName 43 = .ok (.getfield 23, 3) := by decide +kernel
theorem dX7_newName_46 : decode cX7_newName 46 = .ok (.iload_n 3, 1) := by decide +kernel
theorem dX7_newName_47 : decode cX7_newName 47 = .ok (.iaload, 1) := by decide +kernel
theorem dX7_newName_48 : decode cX7_newName 48 = .ok (.imul, 1) := by decide +kernel
theorem dX7_newName_49 : decode cX7_newName 49 = .ok (.iadd, 1) := by decide +kernel
theorem dX7_newName_50 : decode cX7_newName 50 = .ok (.istore 5, 2) := by decide +kernel
theorem dX7_newName_52 : decode cX7_newName 52 = .ok (.aload_n 0, 1) := by decide +kernel
theorem dX7_newName_53 : decode cX7_newName 53 = .ok (.invokevirtual 229, 3) := by decide +kernel
theorem dX7_newName_56 : decode cX7_newName 56 = .ok (.ifCond .eq 12, 3) := by decide +kernel
theorem dX7_newName_59 : decode cX7_newName 59 = .ok (.aload_n 0, 1) := by decide +kernel
theorem dX7_newName_60 : decode cX7_newName 60 = .ok (.getfield 23, 3) := by decide +kernel
theorem dX7_newName_63 : decode cX7_newName 63 = .ok (.iload 5, 2) := by decide +kernel
theorem dX7_newName_65 : decode cX7_newName 65 = .ok (.iload 4, 2) := by decide +kernel
theorem dX7_newName_67 : decode cX7_newName 67 = .ok (.iastore, 1) := by decide +kernel
theorem dX7_newName_68 : decode cX7_newName 68 = .ok (.iload 5, 2) := by decide +kernel
theorem dX7_newName_70 : decode cX7_newName 70 = .ok (.ireturn, 1) := by decide +kernel
def fX7_newName (m : Md) (z1 : Int32) (z2 : Int32) (z3 : Int32) : Int32 × Md := (bnd (fX7_nameHere m ) (fun r5 => (if (fX7_good r5.2 ) = 0 then (bnd (fX7_goOn r5.2 ) (fun r16 => (if (fX7_good r16 ) = 0 then ((z1 + (z2 * ((r16.2.1 (r16.2.2)) z3.toNatClampNeg))), r16) else (bnd (mA r16 (r16.2.2) (upd (r16.2.1 (r16.2.2)) (z1 + (z2 * ((r16.2.1 (r16.2.2)) z3.toNatClampNeg))).toNatClampNeg r5.1)) (fun r26 => ((z1 + (z2 * ((r16.2.1 (r16.2.2)) z3.toNatClampNeg))), r26)))))) else (if (fX7_findIn r5.2 z1 z2 ((r5.2.2.1 (r5.2.2.2)) z3.toNatClampNeg) r5.1) = (-1) then (bnd (fX7_goOn r5.2 ) (fun r39 => (if (fX7_good r39 ) = 0 then ((z1 + (z2 * ((r39.2.1 (r39.2.2)) z3.toNatClampNeg))), r39) else (bnd (mA r39 (r39.2.2) (upd (r39.2.1 (r39.2.2)) (z1 + (z2 * ((r39.2.1 (r39.2.2)) z3.toNatClampNeg))).toNatClampNeg r5.1)) (fun r49 => ((z1 + (z2 * ((r39.2.1 (r39.2.2)) z3.toNatClampNeg))), r49)))))) else (bnd (fX7_fail r5.2 3) (fun r55 => (bnd (fX7_goOn r55 ) (fun r62 => (if (fX7_good r62 ) = 0 then ((z1 + (z2 * ((r62.2.1 (r62.2.2)) z3.toNatClampNeg))), r62) else (bnd (mA r62 (r62.2.2) (upd (r62.2.1 (r62.2.2)) (z1 + (z2 * ((r62.2.1 (r62.2.2)) z3.toNatClampNeg))).toNatClampNeg r5.1)) (fun r72 => ((z1 + (z2 * ((r62.2.1 (r62.2.2)) z3.toNatClampNeg))), r72))))))))))))
def sX7_newName (m : Md) (z1 : Int32) (z2 : Int32) (z3 : Int32) : Prop := ((sX7_nameHere m ) ∧ (bnd (fX7_nameHere m ) (fun r5 => (((fX7_good r5.2 ) = 0 → ((sX7_goOn r5.2 ) ∧ (bnd (fX7_goOn r5.2 ) (fun r16 => (vp_in z3 146 ∧ (((fX7_good r16 ) = 0 → True) ∧ (¬ (fX7_good r16 ) = 0 → (vp_in (z1 + (z2 * ((r16.2.1 (r16.2.2)) z3.toNatClampNeg))) 146 ∧ (bnd (mA r16 (r16.2.2) (upd (r16.2.1 (r16.2.2)) (z1 + (z2 * ((r16.2.1 (r16.2.2)) z3.toNatClampNeg))).toNatClampNeg r5.1)) (fun r26 => True)))))))))) ∧ (¬ (fX7_good r5.2 ) = 0 → (vp_in z3 146 ∧ ((sX7_findIn r5.2 z1 z2 ((r5.2.2.1 (r5.2.2.2)) z3.toNatClampNeg) r5.1) ∧ (((fX7_findIn r5.2 z1 z2 ((r5.2.2.1 (r5.2.2.2)) z3.toNatClampNeg) r5.1) = (-1) → ((sX7_goOn r5.2 ) ∧ (bnd (fX7_goOn r5.2 ) (fun r39 => (vp_in z3 146 ∧ (((fX7_good r39 ) = 0 → True) ∧ (¬ (fX7_good r39 ) = 0 → (vp_in (z1 + (z2 * ((r39.2.1 (r39.2.2)) z3.toNatClampNeg))) 146 ∧ (bnd (mA r39 (r39.2.2) (upd (r39.2.1 (r39.2.2)) (z1 + (z2 * ((r39.2.1 (r39.2.2)) z3.toNatClampNeg))).toNatClampNeg r5.1)) (fun r49 => True)))))))))) ∧ (¬ (fX7_findIn r5.2 z1 z2 ((r5.2.2.1 (r5.2.2.2)) z3.toNatClampNeg) r5.1) = (-1) → (bnd (fX7_fail r5.2 3) (fun r55 => ((sX7_goOn r55 ) ∧ (bnd (fX7_goOn r55 ) (fun r62 => (vp_in z3 146 ∧ (((fX7_good r62 ) = 0 → True) ∧ (¬ (fX7_good r62 ) = 0 → (vp_in (z1 + (z2 * ((r62.2.1 (r62.2.2)) z3.toNatClampNeg))) 146 ∧ (bnd (mA r62 (r62.2.2) (upd (r62.2.1 (r62.2.2)) (z1 + (z2 * ((r62.2.1 (r62.2.2)) z3.toNatClampNeg))).toNatClampNeg r5.1)) (fun r72 => True))))))))))))))))))))
set_option maxRecDepth 20000 in
theorem ctX7_newName {l : Launch} {G : GM} {K : Nat → Option va_E} {h : List va_E} {m : Md} (hm : HM G K h m) (z1 : Int32) (z2 : Int32) (z3 : Int32) (hs : sX7_newName m z1 z2 z3) : Ct l G mX7_newName 8 0 0 [.ref (gz G + 221), .int z1, .int z2, .int z3] h (fun v h1 => ∃ r, (fX7_newName m z1 z2 z3) = r ∧ v = some (.int r.1) ∧ HM G K h1 r.2) := by
  show Tr l G mX7_newName 8 0 0 0 [(0, .ref (gz G + 221)), (1, .int z1), (2, .int z2), (3, .int z3)] [] h _
  unfold sX7_newName at hs
  refine am_aload_n dX7_newName_0 0 rfl ?_
  obtain ⟨i1, hs⟩ := hs
  refine am_callV (As := []) (rest := []) dX7_newName_1 kMX7_312 rfl (hmc221 (m := m) hm) rfl rfl (Nat.le_of_ble_eq_true rfl) (d2 := 7) (by decide) (k2 := 0) (Nat.zero_le _) (u2 := 0) (Nat.zero_le _) (Nat.le_of_ble_eq_true rfl) (ctX7_nameHere (m := m) hm  i1) (fun v2 h3 q4 => ?_)
  obtain ⟨r5, e6, rfl, w7⟩ := q4
  have hs := bnd_p e6 hs
  refine am_istore dX7_newName_4 (by decide) (lv' := [(4, .int r5.1), (0, .ref (gz G + 221)), (1, .int z1), (2, .int z2), (3, .int z3)]) rfl ?_
  refine am_aload_n dX7_newName_6 1 rfl ?_
  refine am_callV (As := []) (rest := []) dX7_newName_7 kMX7_229 rfl (hmc221 (m := r5.2) w7) rfl rfl (Nat.le_of_ble_eq_true rfl) (d2 := 0) (by decide) (k2 := 0) (Nat.zero_le _) (u2 := 0) (Nat.zero_le _) (Nat.le_of_ble_eq_true rfl) (ctX7_good (m := r5.2) w7  ) (fun v8 h9 q10 => ?_)
  obtain ⟨rfl, rfl⟩ := q10
  refine am_if_eq dX7_newName_10 (by decide : ((10 : Nat) : Int) + (26) = ((36 : Nat) : Int)) (fun c11 => ?_) (fun c11 => ?_)
  · have hs := hs.1 c11
    refine am_aload_n dX7_newName_36 1 rfl ?_
    obtain ⟨i12, hs⟩ := hs
    refine am_callV (As := []) (rest := []) dX7_newName_37 kMX7_303 rfl (hmc221 (m := r5.2) w7) rfl rfl (Nat.le_of_ble_eq_true rfl) (d2 := 2) (by decide) (k2 := 0) (Nat.zero_le _) (u2 := 0) (Nat.zero_le _) (Nat.le_of_ble_eq_true rfl) (ctX7_goOn (m := r5.2) w7  i12) (fun v13 h14 q15 => ?_)
    obtain ⟨r16, e17, rfl, w18⟩ := q15
    have hs := bnd_p e17 hs
    refine am_iload_n dX7_newName_40 2 rfl ?_
    refine am_iload_n dX7_newName_41 3 rfl ?_
    refine am_aload_n dX7_newName_42 1 rfl ?_
    refine am_get (v := .ref (gz G + (222 + (r16.2.2)))) dX7_newName_43 kGX7_23 (hmc221 (m := r16) w18) rfl ?_
    refine am_iload_n dX7_newName_46 4 rfl ?_
    obtain ⟨i19, hs⟩ := hs
    refine am_iald (f := (r16.2.1 (r16.2.2))) dX7_newName_47 (hmN (m := r16) w18) i19 ?_
    refine am_imul dX7_newName_48 ?_
    refine am_iadd dX7_newName_49 ?_
    refine am_istore dX7_newName_50 (by decide) (lv' := [(5, .int (z1 + (z2 * ((r16.2.1 (r16.2.2)) z3.toNatClampNeg)))), (4, .int r5.1), (0, .ref (gz G + 221)), (1, .int z1), (2, .int z2), (3, .int z3)]) rfl ?_
    refine am_aload_n dX7_newName_52 2 rfl ?_
    refine am_callV (As := []) (rest := []) dX7_newName_53 kMX7_229 rfl (hmc221 (m := r16) w18) rfl rfl (Nat.le_of_ble_eq_true rfl) (d2 := 0) (by decide) (k2 := 0) (Nat.zero_le _) (u2 := 0) (Nat.zero_le _) (Nat.le_of_ble_eq_true rfl) (ctX7_good (m := r16) w18  ) (fun v20 h21 q22 => ?_)
    obtain ⟨rfl, rfl⟩ := q22
    refine am_if_eq dX7_newName_56 (by decide : ((56 : Nat) : Int) + (12) = ((68 : Nat) : Int)) (fun c23 => ?_) (fun c23 => ?_)
    · have hs := hs.1 c23
      refine am_iload dX7_newName_68 0 rfl ?_
      exact am_ireturn dX7_newName_70 rfl rfl ⟨_, bnd_eq e6 (ifp c11 (bnd_eq e17 (ifp c23 (rfl)))), rfl, w18⟩
    · have hs := hs.2 c23
      refine am_aload_n dX7_newName_59 2 rfl ?_
      refine am_get (v := .ref (gz G + (222 + (r16.2.2)))) dX7_newName_60 kGX7_23 (hmc221 (m := r16) w18) rfl ?_
      refine am_iload dX7_newName_63 0 rfl ?_
      refine am_iload dX7_newName_65 1 rfl ?_
      obtain ⟨i24, hs⟩ := hs
      refine am_iast (f := (r16.2.1 (r16.2.2))) dX7_newName_67 (hmN (m := r16) w18) i24 ?_
      have w25 := hmNw w18 (upd (r16.2.1 (r16.2.2)) (z1 + (z2 * ((r16.2.1 (r16.2.2)) z3.toNatClampNeg))).toNatClampNeg r5.1)
      obtain ⟨r26, e27⟩ : ∃ x, (mA r16 (r16.2.2) (upd (r16.2.1 (r16.2.2)) (z1 + (z2 * ((r16.2.1 (r16.2.2)) z3.toNatClampNeg))).toNatClampNeg r5.1)) = x := ⟨_, rfl⟩
      have w28 := hm_eq e27 w25
      have hs := bnd_p e27 hs
      refine am_iload dX7_newName_68 0 rfl ?_
      exact am_ireturn dX7_newName_70 rfl rfl ⟨_, bnd_eq e6 (ifp c11 (bnd_eq e17 (ifn c23 (bnd_eq e27 (rfl))))), rfl, w28⟩
  · have hs := hs.2 c11
    refine am_aload_n dX7_newName_13 1 rfl ?_
    refine am_iload_n dX7_newName_14 2 rfl ?_
    refine am_iload_n dX7_newName_15 3 rfl ?_
    refine am_aload_n dX7_newName_16 1 rfl ?_
    refine am_get (v := .ref (gz G + (222 + (r5.2.2.2)))) dX7_newName_17 kGX7_23 (hmc221 (m := r5.2) w7) rfl ?_
    refine am_iload_n dX7_newName_20 4 rfl ?_
    obtain ⟨i29, hs⟩ := hs
    refine am_iald (f := (r5.2.2.1 (r5.2.2.2))) dX7_newName_21 (hmN (m := r5.2) w7) i29 ?_
    refine am_iload dX7_newName_22 0 rfl ?_
    obtain ⟨i30, hs⟩ := hs
    refine am_callV (As := [.int z1, .int z2, .int ((r5.2.2.1 (r5.2.2.2)) z3.toNatClampNeg), .int r5.1]) (rest := []) dX7_newName_24 kMX7_315 rfl (hmc221 (m := r5.2) w7) rfl rfl (Nat.le_of_ble_eq_true rfl) (d2 := 0) (by decide) (k2 := 0) (Nat.zero_le _) (u2 := 0) (Nat.zero_le _) (Nat.le_of_ble_eq_true rfl) (ctX7_findIn (m := r5.2) w7 z1 z2 ((r5.2.2.1 (r5.2.2.2)) z3.toNatClampNeg) r5.1 i30) (fun v31 h32 q33 => ?_)
    obtain ⟨rfl, rfl⟩ := q33
    refine am_iconst (v := (-1)) dX7_newName_27 (by decide) ?_
    refine am_icmp_eq dX7_newName_28 (by decide : ((28 : Nat) : Int) + (8) = ((36 : Nat) : Int)) (fun c34 => ?_) (fun c34 => ?_)
    · have hs := hs.1 c34
      refine am_aload_n dX7_newName_36 1 rfl ?_
      obtain ⟨i35, hs⟩ := hs
      refine am_callV (As := []) (rest := []) dX7_newName_37 kMX7_303 rfl (hmc221 (m := r5.2) w7) rfl rfl (Nat.le_of_ble_eq_true rfl) (d2 := 2) (by decide) (k2 := 0) (Nat.zero_le _) (u2 := 0) (Nat.zero_le _) (Nat.le_of_ble_eq_true rfl) (ctX7_goOn (m := r5.2) w7  i35) (fun v36 h37 q38 => ?_)
      obtain ⟨r39, e40, rfl, w41⟩ := q38
      have hs := bnd_p e40 hs
      refine am_iload_n dX7_newName_40 2 rfl ?_
      refine am_iload_n dX7_newName_41 3 rfl ?_
      refine am_aload_n dX7_newName_42 1 rfl ?_
      refine am_get (v := .ref (gz G + (222 + (r39.2.2)))) dX7_newName_43 kGX7_23 (hmc221 (m := r39) w41) rfl ?_
      refine am_iload_n dX7_newName_46 4 rfl ?_
      obtain ⟨i42, hs⟩ := hs
      refine am_iald (f := (r39.2.1 (r39.2.2))) dX7_newName_47 (hmN (m := r39) w41) i42 ?_
      refine am_imul dX7_newName_48 ?_
      refine am_iadd dX7_newName_49 ?_
      refine am_istore dX7_newName_50 (by decide) (lv' := [(5, .int (z1 + (z2 * ((r39.2.1 (r39.2.2)) z3.toNatClampNeg)))), (4, .int r5.1), (0, .ref (gz G + 221)), (1, .int z1), (2, .int z2), (3, .int z3)]) rfl ?_
      refine am_aload_n dX7_newName_52 2 rfl ?_
      refine am_callV (As := []) (rest := []) dX7_newName_53 kMX7_229 rfl (hmc221 (m := r39) w41) rfl rfl (Nat.le_of_ble_eq_true rfl) (d2 := 0) (by decide) (k2 := 0) (Nat.zero_le _) (u2 := 0) (Nat.zero_le _) (Nat.le_of_ble_eq_true rfl) (ctX7_good (m := r39) w41  ) (fun v43 h44 q45 => ?_)
      obtain ⟨rfl, rfl⟩ := q45
      refine am_if_eq dX7_newName_56 (by decide : ((56 : Nat) : Int) + (12) = ((68 : Nat) : Int)) (fun c46 => ?_) (fun c46 => ?_)
      · have hs := hs.1 c46
        refine am_iload dX7_newName_68 0 rfl ?_
        exact am_ireturn dX7_newName_70 rfl rfl ⟨_, bnd_eq e6 (ifn c11 (ifp c34 (bnd_eq e40 (ifp c46 (rfl))))), rfl, w41⟩
      · have hs := hs.2 c46
        refine am_aload_n dX7_newName_59 2 rfl ?_
        refine am_get (v := .ref (gz G + (222 + (r39.2.2)))) dX7_newName_60 kGX7_23 (hmc221 (m := r39) w41) rfl ?_
        refine am_iload dX7_newName_63 0 rfl ?_
        refine am_iload dX7_newName_65 1 rfl ?_
        obtain ⟨i47, hs⟩ := hs
        refine am_iast (f := (r39.2.1 (r39.2.2))) dX7_newName_67 (hmN (m := r39) w41) i47 ?_
        have w48 := hmNw w41 (upd (r39.2.1 (r39.2.2)) (z1 + (z2 * ((r39.2.1 (r39.2.2)) z3.toNatClampNeg))).toNatClampNeg r5.1)
        obtain ⟨r49, e50⟩ : ∃ x, (mA r39 (r39.2.2) (upd (r39.2.1 (r39.2.2)) (z1 + (z2 * ((r39.2.1 (r39.2.2)) z3.toNatClampNeg))).toNatClampNeg r5.1)) = x := ⟨_, rfl⟩
        have w51 := hm_eq e50 w48
        have hs := bnd_p e50 hs
        refine am_iload dX7_newName_68 0 rfl ?_
        exact am_ireturn dX7_newName_70 rfl rfl ⟨_, bnd_eq e6 (ifn c11 (ifp c34 (bnd_eq e40 (ifn c46 (bnd_eq e50 (rfl)))))), rfl, w51⟩
    · have hs := hs.2 c34
      refine am_aload_n dX7_newName_31 1 rfl ?_
      refine am_iconst (v := 3) dX7_newName_32 (by decide) ?_
      refine am_callV (As := [.int 3]) (rest := []) dX7_newName_33 kMX7_300 rfl (hmc221 (m := r5.2) w7) rfl rfl (Nat.le_of_ble_eq_true rfl) (d2 := 1) (by decide) (k2 := 0) (Nat.zero_le _) (u2 := 0) (Nat.zero_le _) (Nat.le_of_ble_eq_true rfl) (ctX7_fail (m := r5.2) w7 3 ) (fun v52 h53 q54 => ?_)
      obtain ⟨r55, e56, rfl, w57⟩ := q54
      have hs := bnd_p e56 hs
      refine am_aload_n dX7_newName_36 1 rfl ?_
      obtain ⟨i58, hs⟩ := hs
      refine am_callV (As := []) (rest := []) dX7_newName_37 kMX7_303 rfl (hmc221 (m := r55) w57) rfl rfl (Nat.le_of_ble_eq_true rfl) (d2 := 2) (by decide) (k2 := 0) (Nat.zero_le _) (u2 := 0) (Nat.zero_le _) (Nat.le_of_ble_eq_true rfl) (ctX7_goOn (m := r55) w57  i58) (fun v59 h60 q61 => ?_)
      obtain ⟨r62, e63, rfl, w64⟩ := q61
      have hs := bnd_p e63 hs
      refine am_iload_n dX7_newName_40 2 rfl ?_
      refine am_iload_n dX7_newName_41 3 rfl ?_
      refine am_aload_n dX7_newName_42 1 rfl ?_
      refine am_get (v := .ref (gz G + (222 + (r62.2.2)))) dX7_newName_43 kGX7_23 (hmc221 (m := r62) w64) rfl ?_
      refine am_iload_n dX7_newName_46 4 rfl ?_
      obtain ⟨i65, hs⟩ := hs
      refine am_iald (f := (r62.2.1 (r62.2.2))) dX7_newName_47 (hmN (m := r62) w64) i65 ?_
      refine am_imul dX7_newName_48 ?_
      refine am_iadd dX7_newName_49 ?_
      refine am_istore dX7_newName_50 (by decide) (lv' := [(5, .int (z1 + (z2 * ((r62.2.1 (r62.2.2)) z3.toNatClampNeg)))), (4, .int r5.1), (0, .ref (gz G + 221)), (1, .int z1), (2, .int z2), (3, .int z3)]) rfl ?_
      refine am_aload_n dX7_newName_52 2 rfl ?_
      refine am_callV (As := []) (rest := []) dX7_newName_53 kMX7_229 rfl (hmc221 (m := r62) w64) rfl rfl (Nat.le_of_ble_eq_true rfl) (d2 := 0) (by decide) (k2 := 0) (Nat.zero_le _) (u2 := 0) (Nat.zero_le _) (Nat.le_of_ble_eq_true rfl) (ctX7_good (m := r62) w64  ) (fun v66 h67 q68 => ?_)
      obtain ⟨rfl, rfl⟩ := q68
      refine am_if_eq dX7_newName_56 (by decide : ((56 : Nat) : Int) + (12) = ((68 : Nat) : Int)) (fun c69 => ?_) (fun c69 => ?_)
      · have hs := hs.1 c69
        refine am_iload dX7_newName_68 0 rfl ?_
        exact am_ireturn dX7_newName_70 rfl rfl ⟨_, bnd_eq e6 (ifn c11 (ifn c34 (bnd_eq e56 (bnd_eq e63 (ifp c69 (rfl)))))), rfl, w64⟩
      · have hs := hs.2 c69
        refine am_aload_n dX7_newName_59 2 rfl ?_
        refine am_get (v := .ref (gz G + (222 + (r62.2.2)))) dX7_newName_60 kGX7_23 (hmc221 (m := r62) w64) rfl ?_
        refine am_iload dX7_newName_63 0 rfl ?_
        refine am_iload dX7_newName_65 1 rfl ?_
        obtain ⟨i70, hs⟩ := hs
        refine am_iast (f := (r62.2.1 (r62.2.2))) dX7_newName_67 (hmN (m := r62) w64) i70 ?_
        have w71 := hmNw w64 (upd (r62.2.1 (r62.2.2)) (z1 + (z2 * ((r62.2.1 (r62.2.2)) z3.toNatClampNeg))).toNatClampNeg r5.1)
        obtain ⟨r72, e73⟩ : ∃ x, (mA r62 (r62.2.2) (upd (r62.2.1 (r62.2.2)) (z1 + (z2 * ((r62.2.1 (r62.2.2)) z3.toNatClampNeg))).toNatClampNeg r5.1)) = x := ⟨_, rfl⟩
        have w74 := hm_eq e73 w71
        have hs := bnd_p e73 hs
        refine am_iload dX7_newName_68 0 rfl ?_
        exact am_ireturn dX7_newName_70 rfl rfl ⟨_, bnd_eq e6 (ifn c11 (ifn c34 (bnd_eq e56 (bnd_eq e63 (ifn c69 (bnd_eq e73 (rfl))))))), rfl, w74⟩

theorem dX7_enter_0 : decode cX7_enter 0 = .ok (.aload_n 0, 1) := by decide +kernel
theorem dX7_enter_1 : decode cX7_enter 1 = .ok (.getfield 23, 3) := by decide +kernel
theorem dX7_enter_4 : decode cX7_enter 4 = .ok (.iload_n 1, 1) := by decide +kernel
theorem dX7_enter_5 : decode cX7_enter 5 = .ok (.iaload, 1) := by decide +kernel
theorem dX7_enter_6 : decode cX7_enter 6 = .ok (.iload_n 2, 1) := by decide +kernel
theorem dX7_enter_7 : decode cX7_enter 7 = .ok (.if_icmp .ne 8, 3) := by decide +kernel
theorem dX7_enter_10 : decode cX7_enter 10 = .ok (.aload_n 0, 1) := by decide +kernel
theorem dX7_enter_11 : decode cX7_enter 11 = .ok (.iconst 5, 1) := by decide +kernel
theorem dX7_enter_12 : decode cX7_enter 12 = .ok (.invokevirtual 300, 3) := by decide +kernel
theorem dX7_enter_15 : decode cX7_enter 15 = .ok (.aload_n 0, 1) := by decide +kernel
theorem dX7_enter_16 : decode cX7_enter 16 = .ok (.invokevirtual 303, 3) := by decide +kernel
theorem dX7_enter_19 : decode cX7_enter 19 = .ok (.return_, 1) := by decide +kernel
def fX7_enter (m : Md) (z1 : Int32) (z2 : Int32) : Md := (if ((m.2.1 (m.2.2)) z1.toNatClampNeg) = z2 then (bnd (fX7_fail m 5) (fun r13 => (bnd (fX7_goOn r13 ) (fun r20 => r20)))) else (bnd (fX7_goOn m ) (fun r7 => r7)))
def sX7_enter (m : Md) (z1 : Int32) (z2 : Int32) : Prop := (vp_in z1 146 ∧ ((((m.2.1 (m.2.2)) z1.toNatClampNeg) = z2 → (bnd (fX7_fail m 5) (fun r13 => ((sX7_goOn r13 ) ∧ (bnd (fX7_goOn r13 ) (fun r20 => True)))))) ∧ (¬ ((m.2.1 (m.2.2)) z1.toNatClampNeg) = z2 → ((sX7_goOn m ) ∧ (bnd (fX7_goOn m ) (fun r7 => True))))))
set_option maxRecDepth 20000 in
theorem ctX7_enter {l : Launch} {G : GM} {K : Nat → Option va_E} {h : List va_E} {m : Md} (hm : HM G K h m) (z1 : Int32) (z2 : Int32) (hs : sX7_enter m z1 z2) : Ct l G mX7_enter 3 0 0 [.ref (gz G + 221), .int z1, .int z2] h (fun v h1 => ∃ r, (fX7_enter m z1 z2) = r ∧ v = none ∧ HM G K h1 r) := by
  show Tr l G mX7_enter 3 0 0 0 [(0, .ref (gz G + 221)), (1, .int z1), (2, .int z2)] [] h _
  unfold sX7_enter at hs
  refine am_aload_n dX7_enter_0 0 rfl ?_
  refine am_get (v := .ref (gz G + (222 + (m.2.2)))) dX7_enter_1 kGX7_23 (hmc221 (m := m) hm) rfl ?_
  refine am_iload_n dX7_enter_4 1 rfl ?_
  obtain ⟨i1, hs⟩ := hs
  refine am_iald (f := (m.2.1 (m.2.2))) dX7_enter_5 (hmN (m := m) hm) i1 ?_
  refine am_iload_n dX7_enter_6 2 rfl ?_
  refine am_icmp_ne dX7_enter_7 (by decide : ((7 : Nat) : Int) + (8) = ((15 : Nat) : Int)) (fun c2 => ?_) (fun c2 => ?_)
  · have hs := hs.2 c2
    refine am_aload_n dX7_enter_15 0 rfl ?_
    obtain ⟨i3, hs⟩ := hs
    refine am_callV (As := []) (rest := []) dX7_enter_16 kMX7_303 rfl (hmc221 (m := m) hm) rfl rfl (Nat.le_of_ble_eq_true rfl) (d2 := 2) (by decide) (k2 := 0) (Nat.zero_le _) (u2 := 0) (Nat.zero_le _) (Nat.le_of_ble_eq_true rfl) (ctX7_goOn (m := m) hm  i3) (fun v4 h5 q6 => ?_)
    obtain ⟨r7, e8, rfl, w9⟩ := q6
    have hs := bnd_p e8 hs
    exact am_return dX7_enter_19 rfl ⟨_, ifn c2 (bnd_eq e8 (rfl)), rfl, w9⟩
  · have hs := hs.1 c2
    refine am_aload_n dX7_enter_10 0 rfl ?_
    refine am_iconst (v := 5) dX7_enter_11 (by decide) ?_
    refine am_callV (As := [.int 5]) (rest := []) dX7_enter_12 kMX7_300 rfl (hmc221 (m := m) hm) rfl rfl (Nat.le_of_ble_eq_true rfl) (d2 := 1) (by decide) (k2 := 0) (Nat.zero_le _) (u2 := 0) (Nat.zero_le _) (Nat.le_of_ble_eq_true rfl) (ctX7_fail (m := m) hm 5 ) (fun v10 h11 q12 => ?_)
    obtain ⟨r13, e14, rfl, w15⟩ := q12
    have hs := bnd_p e14 hs
    refine am_aload_n dX7_enter_15 0 rfl ?_
    obtain ⟨i16, hs⟩ := hs
    refine am_callV (As := []) (rest := []) dX7_enter_16 kMX7_303 rfl (hmc221 (m := r13) w15) rfl rfl (Nat.le_of_ble_eq_true rfl) (d2 := 2) (by decide) (k2 := 0) (Nat.zero_le _) (u2 := 0) (Nat.zero_le _) (Nat.le_of_ble_eq_true rfl) (ctX7_goOn (m := r13) w15  i16) (fun v17 h18 q19 => ?_)
    obtain ⟨r20, e21, rfl, w22⟩ := q19
    have hs := bnd_p e21 hs
    exact am_return dX7_enter_19 rfl ⟨_, ifp c2 (bnd_eq e14 (bnd_eq e21 (rfl))), rfl, w22⟩

theorem dX7_once_0 : decode cX7_once 0 = .ok (.aload_n 0, 1) := by decide +kernel
theorem dX7_once_1 : decode cX7_once 1 = .ok (.getfield 319, 3) := by decide +kernel
theorem dX7_once_4 : decode cX7_once 4 = .ok (.iload_n 1, 1) := by decide +kernel
theorem dX7_once_5 : decode cX7_once 5 = .ok (.invokestatic 104, 3) := by decide +kernel
theorem dX7_once_8 : decode cX7_once 8 = .ok (.ifCond .eq 8, 3) := by decide +kernel
theorem dX7_once_11 : decode cX7_once 11 = .ok (.aload_n 0, 1) := by decide +kernel
theorem dX7_once_12 : decode cX7_once 12 = .ok (.iconst 3, 1) := by decide +kernel
theorem dX7_once_13 : decode cX7_once 13 = .ok (.invokevirtual 300, 3) := by decide +kernel
theorem dX7_once_16 : decode cX7_once 16 = .ok (.aload_n 0, 1) := by decide +kernel
theorem dX7_once_17 : decode cX7_once 17 = .ok (.dup, 1) := by decide +kernel
theorem dX7_once_18 : decode cX7_once 18 = .ok (.getfield 319, 3) := by decide +kernel
theorem dX7_once_21 : decode cX7_once 21 = .ok (.iconst 1, 1) := by decide +kernel
theorem dX7_once_22 : decode cX7_once 22 = .ok (.iload_n 1, 1) := by decide +kernel
theorem dX7_once_23 : decode cX7_once 23 = .ok (.ishl, 1) := by decide +kernel
theorem dX7_once_24 : decode cX7_once 24 = .ok (.ior, 1) := by decide +kernel
theorem dX7_once_25 : decode cX7_once 25 = .ok (.putfield 319, 3) := by decide +kernel
theorem dX7_once_28 : decode cX7_once 28 = .ok (.aload_n 0, 1) := by decide +kernel
theorem dX7_once_29 : decode cX7_once 29 = .ok (.invokevirtual 303, 3) := by decide +kernel
theorem dX7_once_32 : decode cX7_once 32 = .ok (.return_, 1) := by decide +kernel
def fX7_once (m : Md) (z1 : Int32) : Md := (if (fX7_hasBit (m.1 11) z1) = 0 then (bnd (fX7_goOn (mS m 11 ((m.1 11) ||| ((1 : Int32) <<< (z1 &&& 31)))) ) (fun r10 => r10)) else (bnd (fX7_fail m 3) (fun r16 => (bnd (fX7_goOn (mS r16 11 ((r16.1 11) ||| ((1 : Int32) <<< (z1 &&& 31)))) ) (fun r24 => r24)))))
def sX7_once (m : Md) (z1 : Int32) : Prop := (((fX7_hasBit (m.1 11) z1) = 0 → ((sX7_goOn (mS m 11 ((m.1 11) ||| ((1 : Int32) <<< (z1 &&& 31)))) ) ∧ (bnd (fX7_goOn (mS m 11 ((m.1 11) ||| ((1 : Int32) <<< (z1 &&& 31)))) ) (fun r10 => True)))) ∧ (¬ (fX7_hasBit (m.1 11) z1) = 0 → (bnd (fX7_fail m 3) (fun r16 => ((sX7_goOn (mS r16 11 ((r16.1 11) ||| ((1 : Int32) <<< (z1 &&& 31)))) ) ∧ (bnd (fX7_goOn (mS r16 11 ((r16.1 11) ||| ((1 : Int32) <<< (z1 &&& 31)))) ) (fun r24 => True)))))))
set_option maxRecDepth 20000 in
theorem ctX7_once {l : Launch} {G : GM} {K : Nat → Option va_E} {h : List va_E} {m : Md} (hm : HM G K h m) (z1 : Int32) (hs : sX7_once m z1) : Ct l G mX7_once 3 0 0 [.ref (gz G + 221), .int z1] h (fun v h1 => ∃ r, (fX7_once m z1) = r ∧ v = none ∧ HM G K h1 r) := by
  show Tr l G mX7_once 3 0 0 0 [(0, .ref (gz G + 221)), (1, .int z1)] [] h _
  unfold sX7_once at hs
  refine am_aload_n dX7_once_0 0 rfl ?_
  refine am_get (v := .int (m.1 11)) dX7_once_1 kGX7_319 (hmc221 (m := m) hm) rfl ?_
  refine am_iload_n dX7_once_4 1 rfl ?_
  refine am_callS (As := [.int (m.1 11), .int z1]) (rest := []) dX7_once_5 kMX7_104 rfl  rfl (Nat.le_of_ble_eq_true rfl) (d2 := 0) (by decide) (k2 := 0) (Nat.zero_le _) (u2 := 0) (Nat.zero_le _) (Nat.le_of_ble_eq_true rfl) (ctX7_hasBit  (m.1 11) z1 ) (fun v1 h2 q3 => ?_)
  obtain ⟨rfl, rfl⟩ := q3
  refine am_if_eq dX7_once_8 (by decide : ((8 : Nat) : Int) + (8) = ((16 : Nat) : Int)) (fun c4 => ?_) (fun c4 => ?_)
  · have hs := hs.1 c4
    refine am_aload_n dX7_once_16 0 rfl ?_
    refine am_dup dX7_once_17 rfl ?_
    refine am_get (v := .int (m.1 11)) dX7_once_18 kGX7_319 (hmc221 (m := m) hm) rfl ?_
    refine am_iconst (v := 1) dX7_once_21 (by decide) ?_
    refine am_iload_n dX7_once_22 1 rfl ?_
    refine am_ishl dX7_once_23 ?_
    refine am_ior dX7_once_24 ?_
    refine am_put dX7_once_25 kFX7_319 (hmc221 (m := m) hm) (Nat.le_of_ble_eq_true rfl) rfl rfl ?_
    have w5 := hmS11 hm ((m.1 11) ||| ((1 : Int32) <<< (z1 &&& 31)))
    refine am_aload_n dX7_once_28 0 rfl ?_
    obtain ⟨i6, hs⟩ := hs
    refine am_callV (As := []) (rest := []) dX7_once_29 kMX7_303 rfl (hmc221 (m := (mS m 11 ((m.1 11) ||| ((1 : Int32) <<< (z1 &&& 31))))) w5) rfl rfl (Nat.le_of_ble_eq_true rfl) (d2 := 2) (by decide) (k2 := 0) (Nat.zero_le _) (u2 := 0) (Nat.zero_le _) (Nat.le_of_ble_eq_true rfl) (ctX7_goOn (m := (mS m 11 ((m.1 11) ||| ((1 : Int32) <<< (z1 &&& 31))))) w5  i6) (fun v7 h8 q9 => ?_)
    obtain ⟨r10, e11, rfl, w12⟩ := q9
    have hs := bnd_p e11 hs
    exact am_return dX7_once_32 rfl ⟨_, ifp c4 (bnd_eq e11 (rfl)), rfl, w12⟩
  · have hs := hs.2 c4
    refine am_aload_n dX7_once_11 0 rfl ?_
    refine am_iconst (v := 3) dX7_once_12 (by decide) ?_
    refine am_callV (As := [.int 3]) (rest := []) dX7_once_13 kMX7_300 rfl (hmc221 (m := m) hm) rfl rfl (Nat.le_of_ble_eq_true rfl) (d2 := 1) (by decide) (k2 := 0) (Nat.zero_le _) (u2 := 0) (Nat.zero_le _) (Nat.le_of_ble_eq_true rfl) (ctX7_fail (m := m) hm 3 ) (fun v13 h14 q15 => ?_)
    obtain ⟨r16, e17, rfl, w18⟩ := q15
    have hs := bnd_p e17 hs
    refine am_aload_n dX7_once_16 0 rfl ?_
    refine am_dup dX7_once_17 rfl ?_
    refine am_get (v := .int (r16.1 11)) dX7_once_18 kGX7_319 (hmc221 (m := r16) w18) rfl ?_
    refine am_iconst (v := 1) dX7_once_21 (by decide) ?_
    refine am_iload_n dX7_once_22 1 rfl ?_
    refine am_ishl dX7_once_23 ?_
    refine am_ior dX7_once_24 ?_
    refine am_put dX7_once_25 kFX7_319 (hmc221 (m := r16) w18) (Nat.le_of_ble_eq_true rfl) rfl rfl ?_
    have w19 := hmS11 w18 ((r16.1 11) ||| ((1 : Int32) <<< (z1 &&& 31)))
    refine am_aload_n dX7_once_28 0 rfl ?_
    obtain ⟨i20, hs⟩ := hs
    refine am_callV (As := []) (rest := []) dX7_once_29 kMX7_303 rfl (hmc221 (m := (mS r16 11 ((r16.1 11) ||| ((1 : Int32) <<< (z1 &&& 31))))) w19) rfl rfl (Nat.le_of_ble_eq_true rfl) (d2 := 2) (by decide) (k2 := 0) (Nat.zero_le _) (u2 := 0) (Nat.zero_le _) (Nat.le_of_ble_eq_true rfl) (ctX7_goOn (m := (mS r16 11 ((r16.1 11) ||| ((1 : Int32) <<< (z1 &&& 31))))) w19  i20) (fun v21 h22 q23 => ?_)
    obtain ⟨r24, e25, rfl, w26⟩ := q23
    have hs := bnd_p e25 hs
    exact am_return dX7_once_32 rfl ⟨_, ifn c4 (bnd_eq e17 (bnd_eq e25 (rfl))), rfl, w26⟩

theorem dX7_someLength_0 : decode cX7_someLength 0 = .ok (.aload_n 0, 1) := by decide +kernel
theorem dX7_someLength_1 : decode cX7_someLength 1 = .ok (.iload_n 1, 1) := by decide +kernel
theorem dX7_someLength_2 : decode cX7_someLength 2 = .ok (.sipush 9999, 3) := by decide +kernel
theorem dX7_someLength_5 : decode cX7_someLength 5 = .ok (.invokevirtual 322, 3) := by decide +kernel
theorem dX7_someLength_8 : decode cX7_someLength 8 = .ok (.ireturn, 1) := by decide +kernel
def fX7_someLength (m : Md) (z1 : Int32) : Int32 × Md := (bnd (fX7_number m z1 9999) (fun r5 => (r5.1, r5.2)))
def sX7_someLength (m : Md) (z1 : Int32) : Prop := ((sX7_number m z1 9999) ∧ (bnd (fX7_number m z1 9999) (fun r5 => True)))
set_option maxRecDepth 20000 in
theorem ctX7_someLength {l : Launch} {G : GM} {K : Nat → Option va_E} {h : List va_E} {m : Md} (hm : HM G K h m) (z1 : Int32) (hs : sX7_someLength m z1) : Ct l G mX7_someLength 4 0 0 [.ref (gz G + 221), .int z1] h (fun v h1 => ∃ r, (fX7_someLength m z1) = r ∧ v = some (.int r.1) ∧ HM G K h1 r.2) := by
  show Tr l G mX7_someLength 4 0 0 0 [(0, .ref (gz G + 221)), (1, .int z1)] [] h _
  unfold sX7_someLength at hs
  refine am_aload_n dX7_someLength_0 0 rfl ?_
  refine am_iload_n dX7_someLength_1 1 rfl ?_
  refine am_sipush (v := 9999) dX7_someLength_2 (by decide) ?_
  obtain ⟨i1, hs⟩ := hs
  refine am_callV (As := [.int z1, .int 9999]) (rest := []) dX7_someLength_5 kMX7_322 rfl (hmc221 (m := m) hm) rfl rfl (Nat.le_of_ble_eq_true rfl) (d2 := 3) (by decide) (k2 := 0) (Nat.zero_le _) (u2 := 0) (Nat.zero_le _) (Nat.le_of_ble_eq_true rfl) (ctX7_number (m := m) hm z1 9999 i1) (fun v2 h3 q4 => ?_)
  obtain ⟨r5, e6, rfl, w7⟩ := q4
  have hs := bnd_p e6 hs
  exact am_ireturn dX7_someLength_8 rfl rfl ⟨_, bnd_eq e6 (rfl), rfl, w7⟩

theorem dX7_parseYarn_0 : decode cX7_parseYarn 0 = .ok (.aload_n 0, 1) := by decide +kernel
theorem dX7_parseYarn_1 : decode cX7_parseYarn 1 = .ok (.iconst 5, 1) := by decide +kernel
theorem dX7_parseYarn_2 : decode cX7_parseYarn 2 = .ok (.bipush 6, 2) := by decide +kernel
theorem dX7_parseYarn_4 : decode cX7_parseYarn 4 = .ok (.invokevirtual 325, 3) := by decide +kernel
theorem dX7_parseYarn_7 : decode cX7_parseYarn 7 = .ok (.aload_n 0, 1) := by decide +kernel
theorem dX7_parseYarn_8 : decode cX7_parseYarn 8 = .ok (.invokevirtual 229, 3) := by decide +kernel
theorem dX7_parseYarn_11 : decode cX7_parseYarn 11 = .ok (.ifCond .ne 4, 3) := by decide +kernel
theorem dX7_parseYarn_14 : decode cX7_parseYarn 14 = .ok (.return_, 1) := by decide +kernel
theorem dX7_parseYarn_15 : decode cX7_parseYarn 15 = .ok (.aload_n 0, 1) := by decide +kernel
theorem dX7_parseYarn_16 : decode cX7_parseYarn 16 = .ok (.bipush 10, 2) := by decide +kernel
theorem dX7_parseYarn_18 : decode cX7_parseYarn 18 = .ok (.iconst 3, 1) := by decide +kernel
theorem dX7_parseYarn_19 : decode cX7_parseYarn 19 = .ok (.iconst 5, 1) := by decide +kernel
theorem dX7_parseYarn_20 : decode cX7_parseYarn 20 = .ok (.invokevirtual 329, 3) := by decide +kernel
theorem dX7_parseYarn_23 : decode cX7_parseYarn 23 = .ok (.istore_n 1, 1) := by decide +kernel
theorem dX7_parseYarn_24 : decode cX7_parseYarn 24 = .ok (.aload_n 0, 1) := by decide +kernel
theorem dX7_parseYarn_25 : decode cX7_parseYarn 25 = .ok (.getfield 23, 3) := by decide +kernel
theorem dX7_parseYarn_28 : decode cX7_parseYarn 28 = .ok (.iload_n 1, 1) := by decide +kernel
theorem dX7_parseYarn_29 : decode cX7_parseYarn 29 = .ok (.iconst 1, 1) := by decide +kernel
theorem dX7_parseYarn_30 : decode cX7_parseYarn 30 = .ok (.iadd, 1) := by decide +kernel
theorem dX7_parseYarn_31 : decode cX7_parseYarn 31 = .ok (.aload_n 0, 1) := by decide +kernel
theorem dX7_parseYarn_32 : decode cX7_parseYarn 32 = .ok (.iconst 1, 1) := by decide +kernel
theorem dX7_parseYarn_33 : decode cX7_parseYarn 33 = .ok (.bipush 100, 2) := by decide +kernel
theorem dX7_parseYarn_35 : decode cX7_parseYarn 35 = .ok (.invokevirtual 322, 3) := by decide +kernel
theorem dX7_parseYarn_38 : decode cX7_parseYarn 38 = .ok (.iastore, 1) := by decide +kernel
theorem dX7_parseYarn_39 : decode cX7_parseYarn 39 = .ok (.aload_n 0, 1) := by decide +kernel
theorem dX7_parseYarn_40 : decode cX7_parseYarn 40 = .ok (.getfield 23, 3) := by decide +kernel
theorem dX7_parseYarn_43 : decode cX7_parseYarn 43 = .ok (.iload_n 1, 1) := by decide +kernel
theorem dX7_parseYarn_44 : decode cX7_parseYarn 44 = .ok (.iconst 2, 1) := by decide +kernel
theorem dX7_parseYarn_45 : decode cX7_parseYarn 45 = .ok (.iadd, 1) := by decide +kernel
theorem dX7_parseYarn_46 : decode cX7_parseYarn 46 = .ok (.aload_n 0, 1) := by decide +kernel
theorem dX7_parseYarn_47 : decode cX7_parseYarn 47 = .ok (.iconst 0, 1) := by decide +kernel
theorem dX7_parseYarn_48 : decode cX7_parseYarn 48 = .ok (.bipush 50, 2) := by decide +kernel
theorem dX7_parseYarn_50 : decode cX7_parseYarn 50 = .ok (.invokevirtual 322, 3) := by decide +kernel
theorem dX7_parseYarn_53 : decode cX7_parseYarn 53 = .ok (.iastore, 1) := by decide +kernel
theorem dX7_parseYarn_54 : decode cX7_parseYarn 54 = .ok (.aload_n 0, 1) := by decide +kernel
theorem dX7_parseYarn_55 : decode cX7_parseYarn 55 = .ok (.getfield 23, 3) := by decide +kernel
theorem dX7_parseYarn_58 : decode cX7_parseYarn 58 = .ok (.iconst 5, 1) := by decide +kernel
theorem dX7_parseYarn_59 : decode cX7_parseYarn 59 = .ok (.dup2, 1) := by decide +kernel
theorem dX7_parseYarn_60 : decode cX7_parseYarn 60 = .ok (.iaload, 1) := by decide +kernel
theorem dX7_parseYarn_61 : decode cX7_parseYarn 61 = .ok (.iconst 1, 1) := by decide +kernel
theorem dX7_parseYarn_62 : decode cX7_parseYarn 62 = .ok (.iadd, 1) := by decide +kernel
theorem dX7_parseYarn_63 : decode cX7_parseYarn 63 = .ok (.iastore, 1) := by decide +kernel
theorem dX7_parseYarn_64 : decode cX7_parseYarn 64 = .ok (.return_, 1) := by decide +kernel
def fX7_parseYarn (m : Md)  : Md := (bnd (fX7_enter m 5 6) (fun r5 => (if (fX7_good r5 ) = 0 then r5 else (bnd (fX7_newName r5 10 3 5) (fun r16 => (bnd (fX7_number r16.2 1 100) (fun r23 => (bnd (mA r23.2 (r16.2.2.2) (upd (r23.2.2.1 (r16.2.2.2)) (r16.1 + 1).toNatClampNeg r23.1)) (fun r29 => (bnd (fX7_number r29 0 50) (fun r36 => (bnd (mA r36.2 (r29.2.2) (upd (r36.2.2.1 (r29.2.2)) (r16.1 + 2).toNatClampNeg r36.1)) (fun r42 => (bnd (mA r42 (r42.2.2) (upd (r42.2.1 (r42.2.2)) 5 (((r42.2.1 (r42.2.2)) 5) + 1))) (fun r46 => r46)))))))))))))))
def sX7_parseYarn (m : Md)  : Prop := ((sX7_enter m 5 6) ∧ (bnd (fX7_enter m 5 6) (fun r5 => (((fX7_good r5 ) = 0 → True) ∧ (¬ (fX7_good r5 ) = 0 → ((sX7_newName r5 10 3 5) ∧ (bnd (fX7_newName r5 10 3 5) (fun r16 => ((sX7_number r16.2 1 100) ∧ (bnd (fX7_number r16.2 1 100) (fun r23 => ((r23.2.2.2) = (r16.2.2.2) ∧ (vp_in (r16.1 + 1) 146 ∧ (bnd (mA r23.2 (r16.2.2.2) (upd (r23.2.2.1 (r16.2.2.2)) (r16.1 + 1).toNatClampNeg r23.1)) (fun r29 => ((sX7_number r29 0 50) ∧ (bnd (fX7_number r29 0 50) (fun r36 => ((r36.2.2.2) = (r29.2.2) ∧ (vp_in (r16.1 + 2) 146 ∧ (bnd (mA r36.2 (r29.2.2) (upd (r36.2.2.1 (r29.2.2)) (r16.1 + 2).toNatClampNeg r36.1)) (fun r42 => (bnd (mA r42 (r42.2.2) (upd (r42.2.1 (r42.2.2)) 5 (((r42.2.1 (r42.2.2)) 5) + 1))) (fun r46 => True))))))))))))))))))))))))
set_option maxRecDepth 20000 in
theorem ctX7_parseYarn {l : Launch} {G : GM} {K : Nat → Option va_E} {h : List va_E} {m : Md} (hm : HM G K h m)  (hs : sX7_parseYarn m ) : Ct l G mX7_parseYarn 9 0 0 [.ref (gz G + 221)] h (fun v h1 => ∃ r, (fX7_parseYarn m ) = r ∧ v = none ∧ HM G K h1 r) := by
  show Tr l G mX7_parseYarn 9 0 0 0 [(0, .ref (gz G + 221))] [] h _
  unfold sX7_parseYarn at hs
  refine am_aload_n dX7_parseYarn_0 0 rfl ?_
  refine am_iconst (v := 5) dX7_parseYarn_1 (by decide) ?_
  refine am_bipush (v := 6) dX7_parseYarn_2 (by decide) ?_
  obtain ⟨i1, hs⟩ := hs
  refine am_callV (As := [.int 5, .int 6]) (rest := []) dX7_parseYarn_4 kMX7_325 rfl (hmc221 (m := m) hm) rfl rfl (Nat.le_of_ble_eq_true rfl) (d2 := 3) (by decide) (k2 := 0) (Nat.zero_le _) (u2 := 0) (Nat.zero_le _) (Nat.le_of_ble_eq_true rfl) (ctX7_enter (m := m) hm 5 6 i1) (fun v2 h3 q4 => ?_)
  obtain ⟨r5, e6, rfl, w7⟩ := q4
  have hs := bnd_p e6 hs
  refine am_aload_n dX7_parseYarn_7 0 rfl ?_
  refine am_callV (As := []) (rest := []) dX7_parseYarn_8 kMX7_229 rfl (hmc221 (m := r5) w7) rfl rfl (Nat.le_of_ble_eq_true rfl) (d2 := 0) (by decide) (k2 := 0) (Nat.zero_le _) (u2 := 0) (Nat.zero_le _) (Nat.le_of_ble_eq_true rfl) (ctX7_good (m := r5) w7  ) (fun v8 h9 q10 => ?_)
  obtain ⟨rfl, rfl⟩ := q10
  refine am_if_ne dX7_parseYarn_11 (by decide : ((11 : Nat) : Int) + (4) = ((15 : Nat) : Int)) (fun c11 => ?_) (fun c11 => ?_)
  · have hs := hs.2 c11
    refine am_aload_n dX7_parseYarn_15 0 rfl ?_
    refine am_bipush (v := 10) dX7_parseYarn_16 (by decide) ?_
    refine am_iconst (v := 3) dX7_parseYarn_18 (by decide) ?_
    refine am_iconst (v := 5) dX7_parseYarn_19 (by decide) ?_
    obtain ⟨i12, hs⟩ := hs
    refine am_callV (As := [.int 10, .int 3, .int 5]) (rest := []) dX7_parseYarn_20 kMX7_329 rfl (hmc221 (m := r5) w7) rfl rfl (Nat.le_of_ble_eq_true rfl) (d2 := 8) (by decide) (k2 := 0) (Nat.zero_le _) (u2 := 0) (Nat.zero_le _) (Nat.le_of_ble_eq_true rfl) (ctX7_newName (m := r5) w7 10 3 5 i12) (fun v13 h14 q15 => ?_)
    obtain ⟨r16, e17, rfl, w18⟩ := q15
    have hs := bnd_p e17 hs
    refine am_istore_n dX7_parseYarn_23 (by decide) (lv' := [(1, .int r16.1), (0, .ref (gz G + 221))]) rfl ?_
    refine am_aload_n dX7_parseYarn_24 1 rfl ?_
    refine am_get (v := .ref (gz G + (222 + (r16.2.2.2)))) dX7_parseYarn_25 kGX7_23 (hmc221 (m := r16.2) w18) rfl ?_
    refine am_iload_n dX7_parseYarn_28 0 rfl ?_
    refine am_iconst (v := 1) dX7_parseYarn_29 (by decide) ?_
    refine am_iadd dX7_parseYarn_30 ?_
    refine am_aload_n dX7_parseYarn_31 1 rfl ?_
    refine am_iconst (v := 1) dX7_parseYarn_32 (by decide) ?_
    refine am_bipush (v := 100) dX7_parseYarn_33 (by decide) ?_
    obtain ⟨i19, hs⟩ := hs
    refine am_callV (As := [.int 1, .int 100]) (rest := [.int (r16.1 + 1), .ref (gz G + (222 + (r16.2.2.2)))]) dX7_parseYarn_35 kMX7_322 rfl (hmc221 (m := r16.2) w18) rfl rfl (Nat.le_of_ble_eq_true rfl) (d2 := 3) (by decide) (k2 := 0) (Nat.zero_le _) (u2 := 0) (Nat.zero_le _) (Nat.le_of_ble_eq_true rfl) (ctX7_number (m := r16.2) w18 1 100 i19) (fun v20 h21 q22 => ?_)
    obtain ⟨r23, e24, rfl, w25⟩ := q22
    have hs := bnd_p e24 hs
    obtain ⟨i26, hs⟩ := hs
    obtain ⟨i27, hs⟩ := hs
    refine am_iast (f := (r23.2.2.1 (r16.2.2.2))) dX7_parseYarn_38 (hmNe (m := r23.2) w25 i26) i27 ?_
    have w28 := hmNwe w25 i26 (upd (r23.2.2.1 (r16.2.2.2)) (r16.1 + 1).toNatClampNeg r23.1)
    obtain ⟨r29, e30⟩ : ∃ x, (mA r23.2 (r16.2.2.2) (upd (r23.2.2.1 (r16.2.2.2)) (r16.1 + 1).toNatClampNeg r23.1)) = x := ⟨_, rfl⟩
    have w31 := hm_eq e30 w28
    have hs := bnd_p e30 hs
    refine am_aload_n dX7_parseYarn_39 1 rfl ?_
    refine am_get (v := .ref (gz G + (222 + (r29.2.2)))) dX7_parseYarn_40 kGX7_23 (hmc221 (m := r29) w31) rfl ?_
    refine am_iload_n dX7_parseYarn_43 0 rfl ?_
    refine am_iconst (v := 2) dX7_parseYarn_44 (by decide) ?_
    refine am_iadd dX7_parseYarn_45 ?_
    refine am_aload_n dX7_parseYarn_46 1 rfl ?_
    refine am_iconst (v := 0) dX7_parseYarn_47 (by decide) ?_
    refine am_bipush (v := 50) dX7_parseYarn_48 (by decide) ?_
    obtain ⟨i32, hs⟩ := hs
    refine am_callV (As := [.int 0, .int 50]) (rest := [.int (r16.1 + 2), .ref (gz G + (222 + (r29.2.2)))]) dX7_parseYarn_50 kMX7_322 rfl (hmc221 (m := r29) w31) rfl rfl (Nat.le_of_ble_eq_true rfl) (d2 := 3) (by decide) (k2 := 0) (Nat.zero_le _) (u2 := 0) (Nat.zero_le _) (Nat.le_of_ble_eq_true rfl) (ctX7_number (m := r29) w31 0 50 i32) (fun v33 h34 q35 => ?_)
    obtain ⟨r36, e37, rfl, w38⟩ := q35
    have hs := bnd_p e37 hs
    obtain ⟨i39, hs⟩ := hs
    obtain ⟨i40, hs⟩ := hs
    refine am_iast (f := (r36.2.2.1 (r29.2.2))) dX7_parseYarn_53 (hmNe (m := r36.2) w38 i39) i40 ?_
    have w41 := hmNwe w38 i39 (upd (r36.2.2.1 (r29.2.2)) (r16.1 + 2).toNatClampNeg r36.1)
    obtain ⟨r42, e43⟩ : ∃ x, (mA r36.2 (r29.2.2) (upd (r36.2.2.1 (r29.2.2)) (r16.1 + 2).toNatClampNeg r36.1)) = x := ⟨_, rfl⟩
    have w44 := hm_eq e43 w41
    have hs := bnd_p e43 hs
    refine am_aload_n dX7_parseYarn_54 1 rfl ?_
    refine am_get (v := .ref (gz G + (222 + (r42.2.2)))) dX7_parseYarn_55 kGX7_23 (hmc221 (m := r42) w44) rfl ?_
    refine am_iconst (v := 5) dX7_parseYarn_58 (by decide) ?_
    refine am_dup2 dX7_parseYarn_59 rfl rfl ?_
    refine am_iald (f := (r42.2.1 (r42.2.2))) dX7_parseYarn_60 (hmN (m := r42) w44) (vp_lit (by decide)) ?_
    rw [tl5]
    refine am_iconst (v := 1) dX7_parseYarn_61 (by decide) ?_
    refine am_iadd dX7_parseYarn_62 ?_
    refine am_iast (f := (r42.2.1 (r42.2.2))) dX7_parseYarn_63 (hmN (m := r42) w44) (vp_lit (by decide)) ?_
    rw [tl5]
    have w45 := hmNw w44 (upd (r42.2.1 (r42.2.2)) 5 (((r42.2.1 (r42.2.2)) 5) + 1))
    obtain ⟨r46, e47⟩ : ∃ x, (mA r42 (r42.2.2) (upd (r42.2.1 (r42.2.2)) 5 (((r42.2.1 (r42.2.2)) 5) + 1))) = x := ⟨_, rfl⟩
    have w48 := hm_eq e47 w45
    have hs := bnd_p e47 hs
    exact am_return dX7_parseYarn_64 rfl ⟨_, bnd_eq e6 (ifn c11 (bnd_eq e17 (bnd_eq e24 (bnd_eq e30 (bnd_eq e37 (bnd_eq e43 (bnd_eq e47 (rfl)))))))), rfl, w48⟩
  · have hs := hs.1 c11
    exact am_return dX7_parseYarn_14 rfl ⟨_, bnd_eq e6 (ifp c11 (rfl)), rfl, w7⟩
