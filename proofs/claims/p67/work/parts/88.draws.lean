/-! The law's draws. -/
/-- the script's number at k, without its sign; the draw from n -/
def dwA (G : GM) (k : Nat) : Nat := ((if k < gL G then gX G k else 0) &&& 2147483647).toNatClampNeg
def dw (G : GM) (k n : Nat) : Nat := dwA G k % n
theorem dw_lt (G : GM) (k : Nat) {n : Nat} (h : 0 < n) : dw G k n < n := Nat.mod_lt _ h
theorem and_pos (x : Int32) : ¬ (x &&& 2147483647) < 0 := by
  rw [hz_lt]
  show ¬ (x &&& 2147483647).toBitVec.toInt < 0
  rw [Int32.toBitVec_and]
  have h : (x.toBitVec &&& (2147483647 : Int32).toBitVec).msb = false := by
    rw [BitVec.msb_and]
    have : (2147483647 : Int32).toBitVec.msb = false := by decide
    rw [this, Bool.and_false]
  rw [BitVec.toInt_eq_msb_cond, h]
  simp
theorem and_nI (x : Int32) : x &&& 2147483647 = nI (x &&& 2147483647).toNatClampNeg ∧ (x &&& 2147483647).toNatClampNeg < 2 ^ 31 := by
  obtain ⟨j, hj, e⟩ := nI_of (and_pos x)
  rw [e, nI_clamp hj]
  exact ⟨rfl, hj⟩
theorem dw_of (G : GM) (k n : Nat) (h0 : 0 < n) (hn : n < 2 ^ 31) {x : Int32} (hx : x = if k < gL G then gX G k else 0) : (x &&& 2147483647) - (x &&& 2147483647) / nI n * nI n = nI (dw G k n) := by
  obtain ⟨e, hl⟩ := and_nI x
  rw [e, pk_rem hl h0 hn, hx]
  rfl
theorem dL_draw_0 : decode cL_draw 0 = .ok (.iload_n 1, 1) := by decide +kernel
theorem dL_draw_1 : decode cL_draw 1 = .ok (.aload_n 0, 1) := by decide +kernel
theorem dL_draw_2 : decode cL_draw 2 = .ok (.arraylength, 1) := by decide +kernel
theorem dL_draw_3 : decode cL_draw 3 = .ok (.if_icmp .ge 9, 3) := by decide +kernel
theorem dL_draw_6 : decode cL_draw 6 = .ok (.aload_n 0, 1) := by decide +kernel
theorem dL_draw_7 : decode cL_draw 7 = .ok (.iload_n 1, 1) := by decide +kernel
theorem dL_draw_8 : decode cL_draw 8 = .ok (.iaload, 1) := by decide +kernel
theorem dL_draw_9 : decode cL_draw 9 = .ok (.goto 4, 3) := by decide +kernel
theorem dL_draw_12 : decode cL_draw 12 = .ok (.iconst 0, 1) := by decide +kernel
theorem dL_draw_13 : decode cL_draw 13 = .ok (.ldc 7, 2) := by decide +kernel
theorem dL_draw_15 : decode cL_draw 15 = .ok (.iand, 1) := by decide +kernel
theorem dL_draw_16 : decode cL_draw 16 = .ok (.iload_n 2, 1) := by decide +kernel
theorem dL_draw_17 : decode cL_draw 17 = .ok (.irem, 1) := by decide +kernel
theorem dL_draw_18 : decode cL_draw 18 = .ok (.ireturn, 1) := by decide +kernel
set_option maxRecDepth 20000 in
theorem ctL_draw {l : Launch} {G : GM} {h : List va_E} {k n : Nat} (hL : gL G ≤ 260) (hk : k < 100000) (h0 : 0 < n) (hn : n < 100000) : Ct l G mL_draw 0 0 0 [.ref (gB G), .int (nI k), .int (nI n)] h (fun v h1 => v = some (.int (nI (dw G k n))) ∧ h1 = h) := by
  show Tr l G mL_draw 0 0 0 0 [(0, .ref (gB G)), (1, .int (nI k)), (2, .int (nI n))] [] h _
  refine am_iload_n dL_draw_0 1 rfl ?_
  refine am_aload_n dL_draw_1 0 rfl ?_
  refine am_slen dL_draw_2 ?_
  by_cases hc : k < gL G
  · refine am_icmp_ge dL_draw_3 (by decide : ((3 : Nat) : Int) + (9) = ((12 : Nat) : Int)) (fun zq => absurd zq (by rw [nI_leI (by omega) (by omega)]; omega)) (fun _ => ?_)
    refine am_aload_n dL_draw_6 0 rfl ?_
    refine am_iload_n dL_draw_7 1 rfl ?_
    refine am_sld dL_draw_8 (nI_in hc (by omega)) ?_
    rw [nI_clamp (show k < 2 ^ 31 by omega)]
    refine am_goto dL_draw_9 (by decide : ((9 : Nat) : Int) + (4) = ((13 : Nat) : Int)) ?_
    refine am_ldc (v := 2147483647) dL_draw_13 kKL_7 ?_
    refine am_iand dL_draw_15 ?_
    refine am_iload_n dL_draw_16 2 rfl ?_
    refine am_irem dL_draw_17 (nI_ne0 h0 (by omega)) ?_
    rw [dw_of G k n h0 (by omega) (by rw [if_pos hc])]
    exact am_ireturn dL_draw_18 rfl rfl ⟨rfl, rfl⟩
  · refine am_icmp_ge dL_draw_3 (by decide : ((3 : Nat) : Int) + (9) = ((12 : Nat) : Int)) (fun _ => ?_) (fun zq => absurd (by rw [nI_leI (by omega) (by omega)]; omega) zq)
    refine am_iconst (v := 0) dL_draw_12 (by decide) ?_
    refine am_ldc (v := 2147483647) dL_draw_13 kKL_7 ?_
    refine am_iand dL_draw_15 ?_
    refine am_iload_n dL_draw_16 2 rfl ?_
    refine am_irem dL_draw_17 (nI_ne0 h0 (by omega)) ?_
    rw [dw_of G k n h0 (by omega) (by rw [if_neg hc])]
    exact am_ireturn dL_draw_18 rfl rfl ⟨rfl, rfl⟩
theorem dL_pieces_0 : decode cL_pieces 0 = .ok (.aload_n 0, 1) := by decide +kernel
theorem dL_pieces_1 : decode cL_pieces 1 = .ok (.iconst 0, 1) := by decide +kernel
theorem dL_pieces_2 : decode cL_pieces 2 = .ok (.bipush 9, 2) := by decide +kernel
theorem dL_pieces_4 : decode cL_pieces 4 = .ok (.invokestatic 34, 3) := by decide +kernel
theorem dL_pieces_7 : decode cL_pieces 7 = .ok (.ireturn, 1) := by decide +kernel
set_option maxRecDepth 20000 in
theorem ctL_pieces {l : Launch} {G : GM} {h : List va_E} (hL : gL G ≤ 260) : Ct l G mL_pieces 1 0 0 [.ref (gB G)] h (fun v h1 => v = some (.int (nI (dw G 0 9))) ∧ h1 = h) := by
  show Tr l G mL_pieces 1 0 0 0 [(0, .ref (gB G))] [] h _
  refine am_aload_n dL_pieces_0 0 rfl ?_
  refine am_iconst (v := 0) dL_pieces_1 (by decide) ?_
  refine am_bipush (v := 9) dL_pieces_2 (by decide) ?_
  refine am_callS (As := [.ref (gB G), .int (nI (0)), .int (nI 9)]) (rest := []) dL_pieces_4 kML_34 rfl rfl (Nat.le_of_ble_eq_true rfl) (d2 := 0) (by decide) (k2 := 0) (Nat.zero_le _) (u2 := 0) (Nat.zero_le _) (Nat.le_of_ble_eq_true rfl) (ctL_draw (k := 0) (n := 9) hL (by omega) (by decide) (by decide)) (fun r1 h1 q3 => ?_)
  obtain ⟨rfl, rfl⟩ := q3
  exact am_ireturn dL_pieces_7 rfl rfl ⟨rfl, rfl⟩
theorem dL_shapes_0 : decode cL_shapes 0 = .ok (.iconst 1, 1) := by decide +kernel
theorem dL_shapes_1 : decode cL_shapes 1 = .ok (.aload_n 0, 1) := by decide +kernel
theorem dL_shapes_2 : decode cL_shapes 2 = .ok (.iconst 1, 1) := by decide +kernel
theorem dL_shapes_3 : decode cL_shapes 3 = .ok (.iconst 3, 1) := by decide +kernel
theorem dL_shapes_4 : decode cL_shapes 4 = .ok (.invokestatic 34, 3) := by decide +kernel
theorem dL_shapes_7 : decode cL_shapes 7 = .ok (.iadd, 1) := by decide +kernel
theorem dL_shapes_8 : decode cL_shapes 8 = .ok (.ireturn, 1) := by decide +kernel
set_option maxRecDepth 20000 in
theorem ctL_shapes {l : Launch} {G : GM} {h : List va_E} (hL : gL G ≤ 260) : Ct l G mL_shapes 1 0 0 [.ref (gB G)] h (fun v h1 => v = some (.int (nI (1 + dw G 1 3))) ∧ h1 = h) := by
  show Tr l G mL_shapes 1 0 0 0 [(0, .ref (gB G))] [] h _
  refine am_iconst (v := 1) dL_shapes_0 (by decide) ?_
  refine am_aload_n dL_shapes_1 0 rfl ?_
  refine am_iconst (v := 1) dL_shapes_2 (by decide) ?_
  refine am_iconst (v := 3) dL_shapes_3 (by decide) ?_
  refine am_callS (As := [.ref (gB G), .int (nI (1)), .int (nI 3)]) (rest := [.int 1]) dL_shapes_4 kML_34 rfl rfl (Nat.le_of_ble_eq_true rfl) (d2 := 0) (by decide) (k2 := 0) (Nat.zero_le _) (u2 := 0) (Nat.zero_le _) (Nat.le_of_ble_eq_true rfl) (ctL_draw (k := 1) (n := 3) hL (by omega) (by decide) (by decide)) (fun r1 h1 q3 => ?_)
  obtain ⟨rfl, rfl⟩ := q3
  refine am_iadd dL_shapes_7 ?_
  rw [show (1 : Int32) + nI (dw G 1 3) = nI (1 + dw G 1 3) from nI_add 1 _]
  exact am_ireturn dL_shapes_8 rfl rfl ⟨rfl, rfl⟩
theorem dL_yarns_0 : decode cL_yarns 0 = .ok (.iconst 1, 1) := by decide +kernel
theorem dL_yarns_1 : decode cL_yarns 1 = .ok (.aload_n 0, 1) := by decide +kernel
theorem dL_yarns_2 : decode cL_yarns 2 = .ok (.iconst 2, 1) := by decide +kernel
theorem dL_yarns_3 : decode cL_yarns 3 = .ok (.iconst 2, 1) := by decide +kernel
theorem dL_yarns_4 : decode cL_yarns 4 = .ok (.invokestatic 34, 3) := by decide +kernel
theorem dL_yarns_7 : decode cL_yarns 7 = .ok (.iadd, 1) := by decide +kernel
theorem dL_yarns_8 : decode cL_yarns 8 = .ok (.ireturn, 1) := by decide +kernel
set_option maxRecDepth 20000 in
theorem ctL_yarns {l : Launch} {G : GM} {h : List va_E} (hL : gL G ≤ 260) : Ct l G mL_yarns 1 0 0 [.ref (gB G)] h (fun v h1 => v = some (.int (nI (1 + dw G 2 2))) ∧ h1 = h) := by
  show Tr l G mL_yarns 1 0 0 0 [(0, .ref (gB G))] [] h _
  refine am_iconst (v := 1) dL_yarns_0 (by decide) ?_
  refine am_aload_n dL_yarns_1 0 rfl ?_
  refine am_iconst (v := 2) dL_yarns_2 (by decide) ?_
  refine am_iconst (v := 2) dL_yarns_3 (by decide) ?_
  refine am_callS (As := [.ref (gB G), .int (nI (2)), .int (nI 2)]) (rest := [.int 1]) dL_yarns_4 kML_34 rfl rfl (Nat.le_of_ble_eq_true rfl) (d2 := 0) (by decide) (k2 := 0) (Nat.zero_le _) (u2 := 0) (Nat.zero_le _) (Nat.le_of_ble_eq_true rfl) (ctL_draw (k := 2) (n := 2) hL (by omega) (by decide) (by decide)) (fun r1 h1 q3 => ?_)
  obtain ⟨rfl, rfl⟩ := q3
  refine am_iadd dL_yarns_7 ?_
  rw [show (1 : Int32) + nI (dw G 2 2) = nI (1 + dw G 2 2) from nI_add 1 _]
  exact am_ireturn dL_yarns_8 rfl rfl ⟨rfl, rfl⟩
def stD (G : GM) : Nat := if dw G 3 3 = 0 then 100 else dw G 3 101
theorem dL_steam_0 : decode cL_steam 0 = .ok (.aload_n 0, 1) := by decide +kernel
theorem dL_steam_1 : decode cL_steam 1 = .ok (.iconst 3, 1) := by decide +kernel
theorem dL_steam_2 : decode cL_steam 2 = .ok (.iconst 3, 1) := by decide +kernel
theorem dL_steam_3 : decode cL_steam 3 = .ok (.invokestatic 34, 3) := by decide +kernel
theorem dL_steam_6 : decode cL_steam 6 = .ok (.ifCond .ne 8, 3) := by decide +kernel
theorem dL_steam_9 : decode cL_steam 9 = .ok (.bipush 100, 2) := by decide +kernel
theorem dL_steam_11 : decode cL_steam 11 = .ok (.goto 10, 3) := by decide +kernel
theorem dL_steam_14 : decode cL_steam 14 = .ok (.aload_n 0, 1) := by decide +kernel
theorem dL_steam_15 : decode cL_steam 15 = .ok (.iconst 3, 1) := by decide +kernel
theorem dL_steam_16 : decode cL_steam 16 = .ok (.bipush 101, 2) := by decide +kernel
theorem dL_steam_18 : decode cL_steam 18 = .ok (.invokestatic 34, 3) := by decide +kernel
theorem dL_steam_21 : decode cL_steam 21 = .ok (.ireturn, 1) := by decide +kernel
set_option maxRecDepth 20000 in
theorem ctL_steam {l : Launch} {G : GM} {h : List va_E} (hL : gL G ≤ 260) : Ct l G mL_steam 1 0 0 [.ref (gB G)] h (fun v h1 => v = some (.int (nI (stD G))) ∧ h1 = h) := by
  show Tr l G mL_steam 1 0 0 0 [(0, .ref (gB G))] [] h _
  refine am_aload_n dL_steam_0 0 rfl ?_
  refine am_iconst (v := 3) dL_steam_1 (by decide) ?_
  refine am_iconst (v := 3) dL_steam_2 (by decide) ?_
  refine am_callS (As := [.ref (gB G), .int (nI (3)), .int (nI 3)]) (rest := []) dL_steam_3 kML_34 rfl rfl (Nat.le_of_ble_eq_true rfl) (d2 := 0) (by decide) (k2 := 0) (Nat.zero_le _) (u2 := 0) (Nat.zero_le _) (Nat.le_of_ble_eq_true rfl) (ctL_draw (k := 3) (n := 3) hL (by omega) (by decide) (by decide)) (fun r1 h1 q3 => ?_)
  obtain ⟨rfl, rfl⟩ := q3
  have h33 := dw_lt G 3 (n := 3) (by decide)
  by_cases hc : dw G 3 3 = 0
  · refine am_if_ne dL_steam_6 (by decide : ((6 : Nat) : Int) + (8) = ((14 : Nat) : Int)) (fun zq => absurd zq (fun z => z (by rw [hc]; rfl))) (fun _ => ?_)
    refine am_bipush (v := 100) dL_steam_9 (by decide) ?_
    refine am_goto dL_steam_11 (by decide : ((11 : Nat) : Int) + (10) = ((21 : Nat) : Int)) ?_
    exact am_ireturn dL_steam_21 rfl rfl ⟨by unfold stD; rw [if_pos hc]; rfl, rfl⟩
  · refine am_if_ne dL_steam_6 (by decide : ((6 : Nat) : Int) + (8) = ((14 : Nat) : Int)) (fun _ => ?_) (fun zq => absurd zq (nI_ne0 (by omega) (by omega)))
    refine am_aload_n dL_steam_14 0 rfl ?_
    refine am_iconst (v := 3) dL_steam_15 (by decide) ?_
    refine am_bipush (v := 101) dL_steam_16 (by decide) ?_
    refine am_callS (As := [.ref (gB G), .int (nI (3)), .int (nI 101)]) (rest := []) dL_steam_18 kML_34 rfl rfl (Nat.le_of_ble_eq_true rfl) (d2 := 0) (by decide) (k2 := 0) (Nat.zero_le _) (u2 := 0) (Nat.zero_le _) (Nat.le_of_ble_eq_true rfl) (ctL_draw (k := 3) (n := 101) hL (by omega) (by decide) (by decide)) (fun r1 h1 q3 => ?_)
    obtain ⟨rfl, rfl⟩ := q3
    exact am_ireturn dL_steam_21 rfl rfl ⟨by unfold stD; rw [if_neg hc], rfl⟩
theorem dL_shape_0 : decode cL_shape 0 = .ok (.sipush 700, 3) := by decide +kernel
theorem dL_shape_3 : decode cL_shape 3 = .ok (.aload_n 0, 1) := by decide +kernel
theorem dL_shape_4 : decode cL_shape 4 = .ok (.bipush 10, 2) := by decide +kernel
theorem dL_shape_6 : decode cL_shape 6 = .ok (.iload_n 1, 1) := by decide +kernel
theorem dL_shape_7 : decode cL_shape 7 = .ok (.iadd, 1) := by decide +kernel
theorem dL_shape_8 : decode cL_shape 8 = .ok (.sipush 300, 3) := by decide +kernel
theorem dL_shape_11 : decode cL_shape 11 = .ok (.invokestatic 34, 3) := by decide +kernel
theorem dL_shape_14 : decode cL_shape 14 = .ok (.iadd, 1) := by decide +kernel
theorem dL_shape_15 : decode cL_shape 15 = .ok (.ireturn, 1) := by decide +kernel
set_option maxRecDepth 20000 in
theorem ctL_shape {l : Launch} {G : GM} {h : List va_E} {i : Nat} (hL : gL G ≤ 260) (hi : i < 1000) : Ct l G mL_shape 2 0 0 [.ref (gB G), .int (nI i)] h (fun v h1 => v = some (.int (nI (700 + dw G (10 + i) 300))) ∧ h1 = h) := by
  show Tr l G mL_shape 2 0 0 0 [(0, .ref (gB G)), (1, .int (nI i))] [] h _
  refine am_sipush (v := 700) dL_shape_0 (by decide) ?_
  refine am_aload_n dL_shape_3 0 rfl ?_
  refine am_bipush (v := 10) dL_shape_4 (by decide) ?_
  refine am_iload_n dL_shape_6 1 rfl ?_
  refine am_iadd dL_shape_7 ?_
  rw [show (10 : Int32) + nI (i) = nI (10 + i) from nI_add 10 _]
  refine am_sipush (v := 300) dL_shape_8 (by decide) ?_
  refine am_callS (As := [.ref (gB G), .int (nI (10 + i)), .int (nI 300)]) (rest := [.int 700]) dL_shape_11 kML_34 rfl rfl (Nat.le_of_ble_eq_true rfl) (d2 := 0) (by decide) (k2 := 0) (Nat.zero_le _) (u2 := 0) (Nat.zero_le _) (Nat.le_of_ble_eq_true rfl) (ctL_draw (k := 10 + i) (n := 300) hL (by omega) (by decide) (by decide)) (fun r1 h1 q3 => ?_)
  obtain ⟨rfl, rfl⟩ := q3
  refine am_iadd dL_shape_14 ?_
  rw [show (700 : Int32) + nI (dw G (10 + i) 300) = nI (700 + dw G (10 + i) 300) from nI_add 700 _]
  exact am_ireturn dL_shape_15 rfl rfl ⟨rfl, rfl⟩
theorem dL_stretch_0 : decode cL_stretch 0 = .ok (.iconst 1, 1) := by decide +kernel
theorem dL_stretch_1 : decode cL_stretch 1 = .ok (.aload_n 0, 1) := by decide +kernel
theorem dL_stretch_2 : decode cL_stretch 2 = .ok (.bipush 14, 2) := by decide +kernel
theorem dL_stretch_4 : decode cL_stretch 4 = .ok (.iload_n 1, 1) := by decide +kernel
theorem dL_stretch_5 : decode cL_stretch 5 = .ok (.iadd, 1) := by decide +kernel
theorem dL_stretch_6 : decode cL_stretch 6 = .ok (.bipush 60, 2) := by decide +kernel
theorem dL_stretch_8 : decode cL_stretch 8 = .ok (.invokestatic 34, 3) := by decide +kernel
theorem dL_stretch_11 : decode cL_stretch 11 = .ok (.iadd, 1) := by decide +kernel
theorem dL_stretch_12 : decode cL_stretch 12 = .ok (.ireturn, 1) := by decide +kernel
set_option maxRecDepth 20000 in
theorem ctL_stretch {l : Launch} {G : GM} {h : List va_E} {i : Nat} (hL : gL G ≤ 260) (hi : i < 1000) : Ct l G mL_stretch 2 0 0 [.ref (gB G), .int (nI i)] h (fun v h1 => v = some (.int (nI (1 + dw G (14 + i) 60))) ∧ h1 = h) := by
  show Tr l G mL_stretch 2 0 0 0 [(0, .ref (gB G)), (1, .int (nI i))] [] h _
  refine am_iconst (v := 1) dL_stretch_0 (by decide) ?_
  refine am_aload_n dL_stretch_1 0 rfl ?_
  refine am_bipush (v := 14) dL_stretch_2 (by decide) ?_
  refine am_iload_n dL_stretch_4 1 rfl ?_
  refine am_iadd dL_stretch_5 ?_
  rw [show (14 : Int32) + nI (i) = nI (14 + i) from nI_add 14 _]
  refine am_bipush (v := 60) dL_stretch_6 (by decide) ?_
  refine am_callS (As := [.ref (gB G), .int (nI (14 + i)), .int (nI 60)]) (rest := [.int 1]) dL_stretch_8 kML_34 rfl rfl (Nat.le_of_ble_eq_true rfl) (d2 := 0) (by decide) (k2 := 0) (Nat.zero_le _) (u2 := 0) (Nat.zero_le _) (Nat.le_of_ble_eq_true rfl) (ctL_draw (k := 14 + i) (n := 60) hL (by omega) (by decide) (by decide)) (fun r1 h1 q3 => ?_)
  obtain ⟨rfl, rfl⟩ := q3
  refine am_iadd dL_stretch_11 ?_
  rw [show (1 : Int32) + nI (dw G (14 + i) 60) = nI (1 + dw G (14 + i) 60) from nI_add 1 _]
  exact am_ireturn dL_stretch_12 rfl rfl ⟨rfl, rfl⟩
theorem dL_recovery_0 : decode cL_recovery 0 = .ok (.aload_n 0, 1) := by decide +kernel
theorem dL_recovery_1 : decode cL_recovery 1 = .ok (.bipush 17, 2) := by decide +kernel
theorem dL_recovery_3 : decode cL_recovery 3 = .ok (.iload_n 1, 1) := by decide +kernel
theorem dL_recovery_4 : decode cL_recovery 4 = .ok (.iadd, 1) := by decide +kernel
theorem dL_recovery_5 : decode cL_recovery 5 = .ok (.bipush 51, 2) := by decide +kernel
theorem dL_recovery_7 : decode cL_recovery 7 = .ok (.invokestatic 34, 3) := by decide +kernel
theorem dL_recovery_10 : decode cL_recovery 10 = .ok (.ireturn, 1) := by decide +kernel
set_option maxRecDepth 20000 in
theorem ctL_recovery {l : Launch} {G : GM} {h : List va_E} {i : Nat} (hL : gL G ≤ 260) (hi : i < 1000) : Ct l G mL_recovery 2 0 0 [.ref (gB G), .int (nI i)] h (fun v h1 => v = some (.int (nI (dw G (17 + i) 51))) ∧ h1 = h) := by
  show Tr l G mL_recovery 2 0 0 0 [(0, .ref (gB G)), (1, .int (nI i))] [] h _
  refine am_aload_n dL_recovery_0 0 rfl ?_
  refine am_bipush (v := 17) dL_recovery_1 (by decide) ?_
  refine am_iload_n dL_recovery_3 1 rfl ?_
  refine am_iadd dL_recovery_4 ?_
  rw [show (17 : Int32) + nI (i) = nI (17 + i) from nI_add 17 _]
  refine am_bipush (v := 51) dL_recovery_5 (by decide) ?_
  refine am_callS (As := [.ref (gB G), .int (nI (17 + i)), .int (nI 51)]) (rest := []) dL_recovery_7 kML_34 rfl rfl (Nat.le_of_ble_eq_true rfl) (d2 := 0) (by decide) (k2 := 0) (Nat.zero_le _) (u2 := 0) (Nat.zero_le _) (Nat.le_of_ble_eq_true rfl) (ctL_draw (k := 17 + i) (n := 51) hL (by omega) (by decide) (by decide)) (fun r1 h1 q3 => ?_)
  obtain ⟨rfl, rfl⟩ := q3
  exact am_ireturn dL_recovery_10 rfl rfl ⟨rfl, rfl⟩
theorem dL_yarn_0 : decode cL_yarn 0 = .ok (.aload_n 0, 1) := by decide +kernel
theorem dL_yarn_1 : decode cL_yarn 1 = .ok (.bipush 30, 2) := by decide +kernel
theorem dL_yarn_3 : decode cL_yarn 3 = .ok (.iconst 4, 1) := by decide +kernel
theorem dL_yarn_4 : decode cL_yarn 4 = .ok (.iload_n 1, 1) := by decide +kernel
theorem dL_yarn_5 : decode cL_yarn 5 = .ok (.imul, 1) := by decide +kernel
theorem dL_yarn_6 : decode cL_yarn 6 = .ok (.iadd, 1) := by decide +kernel
theorem dL_yarn_7 : decode cL_yarn 7 = .ok (.aload_n 0, 1) := by decide +kernel
theorem dL_yarn_8 : decode cL_yarn 8 = .ok (.invokestatic 38, 3) := by decide +kernel
theorem dL_yarn_11 : decode cL_yarn 11 = .ok (.invokestatic 34, 3) := by decide +kernel
theorem dL_yarn_14 : decode cL_yarn 14 = .ok (.ireturn, 1) := by decide +kernel
set_option maxRecDepth 20000 in
theorem ctL_yarn {l : Launch} {G : GM} {h : List va_E} {i : Nat} (hL : gL G ≤ 260) (hi : i < 1000) : Ct l G mL_yarn 2 0 0 [.ref (gB G), .int (nI i)] h (fun v h1 => v = some (.int (nI (dw G (30 + 4 * i) (1 + dw G 2 2)))) ∧ h1 = h) := by
  show Tr l G mL_yarn 2 0 0 0 [(0, .ref (gB G)), (1, .int (nI i))] [] h _
  refine am_aload_n dL_yarn_0 0 rfl ?_
  refine am_bipush (v := 30) dL_yarn_1 (by decide) ?_
  refine am_iconst (v := 4) dL_yarn_3 (by decide) ?_
  refine am_iload_n dL_yarn_4 1 rfl ?_
  refine am_imul dL_yarn_5 ?_
  rw [show (4 : Int32) * nI i = nI (4 * i) from pk_mul 4 i]
  refine am_iadd dL_yarn_6 ?_
  rw [show (30 : Int32) + nI (4 * i) = nI (30 + 4 * i) from nI_add 30 _]
  refine am_aload_n dL_yarn_7 0 rfl ?_
  refine am_callS (As := [.ref (gB G)]) (rest := [.int (nI (30 + 4 * i)), .ref (gB G)]) dL_yarn_8 kML_38 rfl rfl (Nat.le_of_ble_eq_true rfl) (d2 := 1) (by decide) (k2 := 0) (Nat.zero_le _) (u2 := 0) (Nat.zero_le _) (Nat.le_of_ble_eq_true rfl) (ctL_yarns hL) (fun r1 h1 q3 => ?_)
  obtain ⟨rfl, rfl⟩ := q3
  have hy := dw_lt G 2 (n := 2) (by decide)
  refine am_callS (As := [.ref (gB G), .int (nI (30 + 4 * i)), .int (nI (1 + dw G 2 2))]) (rest := []) dL_yarn_11 kML_34 rfl rfl (Nat.le_of_ble_eq_true rfl) (d2 := 0) (by decide) (k2 := 0) (Nat.zero_le _) (u2 := 0) (Nat.zero_le _) (Nat.le_of_ble_eq_true rfl) (ctL_draw (k := 30 + 4 * i) (n := (1 + dw G 2 2)) hL (by omega) (by omega) (by omega)) (fun r1 h1 q3 => ?_)
  obtain ⟨rfl, rfl⟩ := q3
  exact am_ireturn dL_yarn_14 rfl rfl ⟨rfl, rfl⟩
theorem dL_kind_0 : decode cL_kind 0 = .ok (.aload_n 0, 1) := by decide +kernel
theorem dL_kind_1 : decode cL_kind 1 = .ok (.bipush 31, 2) := by decide +kernel
theorem dL_kind_3 : decode cL_kind 3 = .ok (.iconst 4, 1) := by decide +kernel
theorem dL_kind_4 : decode cL_kind 4 = .ok (.iload_n 1, 1) := by decide +kernel
theorem dL_kind_5 : decode cL_kind 5 = .ok (.imul, 1) := by decide +kernel
theorem dL_kind_6 : decode cL_kind 6 = .ok (.iadd, 1) := by decide +kernel
theorem dL_kind_7 : decode cL_kind 7 = .ok (.iconst 4, 1) := by decide +kernel
theorem dL_kind_8 : decode cL_kind 8 = .ok (.invokestatic 34, 3) := by decide +kernel
theorem dL_kind_11 : decode cL_kind 11 = .ok (.iconst 3, 1) := by decide +kernel
theorem dL_kind_12 : decode cL_kind 12 = .ok (.irem, 1) := by decide +kernel
theorem dL_kind_13 : decode cL_kind 13 = .ok (.ireturn, 1) := by decide +kernel
set_option maxRecDepth 20000 in
theorem ctL_kind {l : Launch} {G : GM} {h : List va_E} {i : Nat} (hL : gL G ≤ 260) (hi : i < 1000) : Ct l G mL_kind 2 0 0 [.ref (gB G), .int (nI i)] h (fun v h1 => v = some (.int (nI (dw G (31 + 4 * i) 4 % 3))) ∧ h1 = h) := by
  show Tr l G mL_kind 2 0 0 0 [(0, .ref (gB G)), (1, .int (nI i))] [] h _
  refine am_aload_n dL_kind_0 0 rfl ?_
  refine am_bipush (v := 31) dL_kind_1 (by decide) ?_
  refine am_iconst (v := 4) dL_kind_3 (by decide) ?_
  refine am_iload_n dL_kind_4 1 rfl ?_
  refine am_imul dL_kind_5 ?_
  rw [show (4 : Int32) * nI i = nI (4 * i) from pk_mul 4 i]
  refine am_iadd dL_kind_6 ?_
  rw [show (31 : Int32) + nI (4 * i) = nI (31 + 4 * i) from nI_add 31 _]
  refine am_iconst (v := 4) dL_kind_7 (by decide) ?_
  refine am_callS (As := [.ref (gB G), .int (nI (31 + 4 * i)), .int (nI 4)]) (rest := []) dL_kind_8 kML_34 rfl rfl (Nat.le_of_ble_eq_true rfl) (d2 := 0) (by decide) (k2 := 0) (Nat.zero_le _) (u2 := 0) (Nat.zero_le _) (Nat.le_of_ble_eq_true rfl) (ctL_draw (k := 31 + 4 * i) (n := 4) hL (by omega) (by decide) (by decide)) (fun r1 h1 q3 => ?_)
  obtain ⟨rfl, rfl⟩ := q3
  refine am_iconst (v := 3) dL_kind_11 (by decide) ?_
  refine am_irem dL_kind_12 (by decide) ?_
  rw [show nI (dw G (31 + 4 * i) 4) - nI (dw G (31 + 4 * i) 4) / 3 * 3 = nI (dw G (31 + 4 * i) 4 % 3) from pk_rem (d := 3) (by have := dw_lt G (31 + 4 * i) (n := 4) (by decide); omega) (by decide) (by decide)]
  exact am_ireturn dL_kind_13 rfl rfl ⟨rfl, rfl⟩
theorem dL_knitted_0 : decode cL_knitted 0 = .ok (.sipush 650, 3) := by decide +kernel
theorem dL_knitted_3 : decode cL_knitted 3 = .ok (.aload_n 0, 1) := by decide +kernel
theorem dL_knitted_4 : decode cL_knitted 4 = .ok (.bipush 32, 2) := by decide +kernel
theorem dL_knitted_6 : decode cL_knitted 6 = .ok (.iconst 4, 1) := by decide +kernel
theorem dL_knitted_7 : decode cL_knitted 7 = .ok (.iload_n 1, 1) := by decide +kernel
theorem dL_knitted_8 : decode cL_knitted 8 = .ok (.imul, 1) := by decide +kernel
theorem dL_knitted_9 : decode cL_knitted 9 = .ok (.iadd, 1) := by decide +kernel
theorem dL_knitted_10 : decode cL_knitted 10 = .ok (.bipush 60, 2) := by decide +kernel
theorem dL_knitted_12 : decode cL_knitted 12 = .ok (.invokestatic 34, 3) := by decide +kernel
theorem dL_knitted_15 : decode cL_knitted 15 = .ok (.iadd, 1) := by decide +kernel
theorem dL_knitted_16 : decode cL_knitted 16 = .ok (.ireturn, 1) := by decide +kernel
set_option maxRecDepth 20000 in
theorem ctL_knitted {l : Launch} {G : GM} {h : List va_E} {i : Nat} (hL : gL G ≤ 260) (hi : i < 1000) : Ct l G mL_knitted 2 0 0 [.ref (gB G), .int (nI i)] h (fun v h1 => v = some (.int (nI (650 + dw G (32 + 4 * i) 60))) ∧ h1 = h) := by
  show Tr l G mL_knitted 2 0 0 0 [(0, .ref (gB G)), (1, .int (nI i))] [] h _
  refine am_sipush (v := 650) dL_knitted_0 (by decide) ?_
  refine am_aload_n dL_knitted_3 0 rfl ?_
  refine am_bipush (v := 32) dL_knitted_4 (by decide) ?_
  refine am_iconst (v := 4) dL_knitted_6 (by decide) ?_
  refine am_iload_n dL_knitted_7 1 rfl ?_
  refine am_imul dL_knitted_8 ?_
  rw [show (4 : Int32) * nI i = nI (4 * i) from pk_mul 4 i]
  refine am_iadd dL_knitted_9 ?_
  rw [show (32 : Int32) + nI (4 * i) = nI (32 + 4 * i) from nI_add 32 _]
  refine am_bipush (v := 60) dL_knitted_10 (by decide) ?_
  refine am_callS (As := [.ref (gB G), .int (nI (32 + 4 * i)), .int (nI 60)]) (rest := [.int 650]) dL_knitted_12 kML_34 rfl rfl (Nat.le_of_ble_eq_true rfl) (d2 := 0) (by decide) (k2 := 0) (Nat.zero_le _) (u2 := 0) (Nat.zero_le _) (Nat.le_of_ble_eq_true rfl) (ctL_draw (k := 32 + 4 * i) (n := 60) hL (by omega) (by decide) (by decide)) (fun r1 h1 q3 => ?_)
  obtain ⟨rfl, rfl⟩ := q3
  refine am_iadd dL_knitted_15 ?_
  rw [show (650 : Int32) + nI (dw G (32 + 4 * i) 60) = nI (650 + dw G (32 + 4 * i) 60) from nI_add 650 _]
  exact am_ireturn dL_knitted_16 rfl rfl ⟨rfl, rfl⟩
theorem dL_shade_0 : decode cL_shade 0 = .ok (.bipush 100, 2) := by decide +kernel
theorem dL_shade_2 : decode cL_shade 2 = .ok (.aload_n 0, 1) := by decide +kernel
theorem dL_shade_3 : decode cL_shade 3 = .ok (.bipush 33, 2) := by decide +kernel
theorem dL_shade_5 : decode cL_shade 5 = .ok (.iconst 4, 1) := by decide +kernel
theorem dL_shade_6 : decode cL_shade 6 = .ok (.iload_n 1, 1) := by decide +kernel
theorem dL_shade_7 : decode cL_shade 7 = .ok (.imul, 1) := by decide +kernel
theorem dL_shade_8 : decode cL_shade 8 = .ok (.iadd, 1) := by decide +kernel
theorem dL_shade_9 : decode cL_shade 9 = .ok (.bipush 12, 2) := by decide +kernel
theorem dL_shade_11 : decode cL_shade 11 = .ok (.invokestatic 34, 3) := by decide +kernel
theorem dL_shade_14 : decode cL_shade 14 = .ok (.iadd, 1) := by decide +kernel
theorem dL_shade_15 : decode cL_shade 15 = .ok (.ireturn, 1) := by decide +kernel
set_option maxRecDepth 20000 in
theorem ctL_shade {l : Launch} {G : GM} {h : List va_E} {i : Nat} (hL : gL G ≤ 260) (hi : i < 1000) : Ct l G mL_shade 2 0 0 [.ref (gB G), .int (nI i)] h (fun v h1 => v = some (.int (nI (100 + dw G (33 + 4 * i) 12))) ∧ h1 = h) := by
  show Tr l G mL_shade 2 0 0 0 [(0, .ref (gB G)), (1, .int (nI i))] [] h _
  refine am_bipush (v := 100) dL_shade_0 (by decide) ?_
  refine am_aload_n dL_shade_2 0 rfl ?_
  refine am_bipush (v := 33) dL_shade_3 (by decide) ?_
  refine am_iconst (v := 4) dL_shade_5 (by decide) ?_
  refine am_iload_n dL_shade_6 1 rfl ?_
  refine am_imul dL_shade_7 ?_
  rw [show (4 : Int32) * nI i = nI (4 * i) from pk_mul 4 i]
  refine am_iadd dL_shade_8 ?_
  rw [show (33 : Int32) + nI (4 * i) = nI (33 + 4 * i) from nI_add 33 _]
  refine am_bipush (v := 12) dL_shade_9 (by decide) ?_
  refine am_callS (As := [.ref (gB G), .int (nI (33 + 4 * i)), .int (nI 12)]) (rest := [.int 100]) dL_shade_11 kML_34 rfl rfl (Nat.le_of_ble_eq_true rfl) (d2 := 0) (by decide) (k2 := 0) (Nat.zero_le _) (u2 := 0) (Nat.zero_le _) (Nat.le_of_ble_eq_true rfl) (ctL_draw (k := 33 + 4 * i) (n := 12) hL (by omega) (by decide) (by decide)) (fun r1 h1 q3 => ?_)
  obtain ⟨rfl, rfl⟩ := q3
  refine am_iadd dL_shade_14 ?_
  rw [show (100 : Int32) + nI (dw G (33 + 4 * i) 12) = nI (100 + dw G (33 + 4 * i) 12) from nI_add 100 _]
  exact am_ireturn dL_shade_15 rfl rfl ⟨rfl, rfl⟩
