/-! The law's plant(s): its head and its sizes. -/
theorem stD_le (G : GM) : stD G ≤ 100 := by
  have h1 := dw_lt G 3 (n := 101) (by decide)
  unfold stD
  split <;> omega
theorem sd_lo {G : GM} {lo lo1 si : Nat} {h : List va_E} {T : List Int32} (hs : SD G lo1 h si T) (hl : lo ≤ lo1) : SD G lo h si T := by
  obtain ⟨sr, f, a1, a2, a3⟩ := hs
  exact ⟨sr, f, by omega, by omega, a3⟩
theorem dL_plant_0 : decode cL_plant 0 = .ok (.new 42, 3) := by decide +kernel
theorem dL_plant_3 : decode cL_plant 3 = .ok (.dup, 1) := by decide +kernel
theorem dL_plant_4 : decode cL_plant 4 = .ok (.new 42, 3) := by decide +kernel
theorem dL_plant_7 : decode cL_plant 7 = .ok (.dup, 1) := by decide +kernel
theorem dL_plant_8 : decode cL_plant 8 = .ok (.invokespecial 44, 3) := by decide +kernel
theorem dL_plant_11 : decode cL_plant 11 = .ok (.ldc 45, 2) := by decide +kernel
theorem dL_plant_13 : decode cL_plant 13 = .ok (.invokevirtual 47, 3) := by decide +kernel
theorem dL_plant_16 : decode cL_plant 16 = .ok (.aload_n 0, 1) := by decide +kernel
theorem dL_plant_17 : decode cL_plant 17 = .ok (.iconst 4, 1) := by decide +kernel
theorem dL_plant_18 : decode cL_plant 18 = .ok (.bipush 60, 2) := by decide +kernel
theorem dL_plant_20 : decode cL_plant 20 = .ok (.invokestatic 34, 3) := by decide +kernel
theorem dL_plant_23 : decode cL_plant 23 = .ok (.invokevirtual 50, 3) := by decide +kernel
theorem dL_plant_26 : decode cL_plant 26 = .ok (.ldc 53, 2) := by decide +kernel
theorem dL_plant_28 : decode cL_plant 28 = .ok (.invokevirtual 47, 3) := by decide +kernel
theorem dL_plant_31 : decode cL_plant 31 = .ok (.aload_n 0, 1) := by decide +kernel
theorem dL_plant_32 : decode cL_plant 32 = .ok (.iconst 5, 1) := by decide +kernel
theorem dL_plant_33 : decode cL_plant 33 = .ok (.bipush 9, 2) := by decide +kernel
theorem dL_plant_35 : decode cL_plant 35 = .ok (.invokestatic 34, 3) := by decide +kernel
theorem dL_plant_38 : decode cL_plant 38 = .ok (.invokevirtual 50, 3) := by decide +kernel
theorem dL_plant_41 : decode cL_plant 41 = .ok (.ldc 55, 2) := by decide +kernel
theorem dL_plant_43 : decode cL_plant 43 = .ok (.invokevirtual 47, 3) := by decide +kernel
theorem dL_plant_46 : decode cL_plant 46 = .ok (.aload_n 0, 1) := by decide +kernel
theorem dL_plant_47 : decode cL_plant 47 = .ok (.invokestatic 57, 3) := by decide +kernel
theorem dL_plant_50 : decode cL_plant 50 = .ok (.invokevirtual 50, 3) := by decide +kernel
theorem dL_plant_53 : decode cL_plant 53 = .ok (.ldc 60, 2) := by decide +kernel
theorem dL_plant_55 : decode cL_plant 55 = .ok (.invokevirtual 47, 3) := by decide +kernel
theorem dL_plant_58 : decode cL_plant 58 = .ok (.iconst 1, 1) := by decide +kernel
theorem dL_plant_59 : decode cL_plant 59 = .ok (.aload_n 0, 1) := by decide +kernel
theorem dL_plant_60 : decode cL_plant 60 = .ok (.bipush 6, 2) := by decide +kernel
theorem dL_plant_62 : decode cL_plant 62 = .ok (.iconst 3, 1) := by decide +kernel
theorem dL_plant_63 : decode cL_plant 63 = .ok (.invokestatic 34, 3) := by decide +kernel
theorem dL_plant_66 : decode cL_plant 66 = .ok (.iadd, 1) := by decide +kernel
theorem dL_plant_67 : decode cL_plant 67 = .ok (.invokevirtual 50, 3) := by decide +kernel
theorem dL_plant_70 : decode cL_plant 70 = .ok (.ldc 62, 2) := by decide +kernel
theorem dL_plant_72 : decode cL_plant 72 = .ok (.invokevirtual 47, 3) := by decide +kernel
theorem dL_plant_75 : decode cL_plant 75 = .ok (.invokevirtual 64, 3) := by decide +kernel
theorem dL_plant_78 : decode cL_plant 78 = .ok (.invokespecial 68, 3) := by decide +kernel
theorem dL_plant_81 : decode cL_plant 81 = .ok (.astore_n 1, 1) := by decide +kernel
theorem dL_plant_82 : decode cL_plant 82 = .ok (.iconst 0, 1) := by decide +kernel
theorem dL_plant_83 : decode cL_plant 83 = .ok (.istore_n 2, 1) := by decide +kernel
set_option maxRecDepth 20000 in
theorem pl_head {l : Launch} {G : GM} {h : List va_E} {Q : Option Value → List va_E → Prop} (hL : gL G ≤ 260) {k0 u0 d : Nat} (hd : 9 ≤ d) (hh : 221 ≤ h.length) (kk : ∀ B hb, h.length = B + 19 → BL G hb B ((((((((((([] : List Int32) ++ sq21.2.2.2) ++ numB (dw G 4 60)) ++ sq22.2.2.2) ++ numB (dw G 5 9)) ++ sq23.2.2.2) ++ numB (stD G)) ++ sq24.2.2.2) ++ numB (1 + dw G 6 3)) ++ sq25.2.2.2)) → ((((((((((([] : List Int32) ++ sq21.2.2.2) ++ numB (dw G 4 60)) ++ sq22.2.2.2) ++ numB (dw G 5 9)) ++ sq23.2.2.2) ++ numB (stD G)) ++ sq24.2.2.2) ++ numB (1 + dw G 6 3)) ++ sq25.2.2.2)).length ≤ 60 → (∀ a, a < h.length → hb[a]? = h[a]?) → h.length ≤ hb.length → Tr l G mL_plant d k0 u0 84 [(2, .int (nI 0)), (1, .ref (gz G + (B + 19))), (0, .ref (gB G))] [] hb Q) : Tr l G mL_plant d (k0 + 15) (u0 + 20224) 0 [(0, .ref (gB G))] [] h Q := by
  obtain ⟨B, hB⟩ : ∃ B, h.length = B + 19 := ⟨h.length - 19, by omega⟩
  have e4 := dw_lt G 4 (n := 60) (by decide)
  have e5 := dw_lt G 5 (n := 9) (by decide)
  have e6 := dw_lt G 6 (n := 3) (by decide)
  have e33 := stD_le G
  refine am_newL (n := B + 19) hB (k1 := k0 + 14) (u1 := u0 + 20220) dL_plant_0 kNL_42 (by omega) (by omega) ?_
  have x1 : (h ++ [(.inr (0, [.null, .int 0, .int 0, .int 0]) : va_E)])[B + 19]? = some (.inr (0, [.null, .int 0, .int 0, .int 0])) := hs_newc hB
  have l1 : (h ++ [(.inr (0, [.null, .int 0, .int 0, .int 0]) : va_E)]).length = B + 1 + 19 := by rw [List.length_append, hB]; rfl
  refine am_dup dL_plant_3 rfl ?_
  refine am_newL (n := B + 1 + 19) l1 (k1 := k0 + 13) (u1 := u0 + 20216) dL_plant_4 kNL_42 (by omega) (by omega) ?_
  have x2 := hs_push x1 (e := .inr (0, [.null, .int 0, .int 0, .int 0]))
  have x3 : ((h ++ [(.inr (0, [.null, .int 0, .int 0, .int 0]) : va_E)]) ++ [(.inr (0, [.null, .int 0, .int 0, .int 0]) : va_E)])[B + 1 + 19]? = some (.inr (0, [.null, .int 0, .int 0, .int 0])) := hs_newc l1
  have l2 : ((h ++ [(.inr (0, [.null, .int 0, .int 0, .int 0]) : va_E)]) ++ [(.inr (0, [.null, .int 0, .int 0, .int 0]) : va_E)]).length = B + 1 + 20 := by rw [List.length_append, l1]; rfl
  have lo : ∀ a, a < h.length → ((h ++ [(.inr (0, [.null, .int 0, .int 0, .int 0]) : va_E)]) ++ [(.inr (0, [.null, .int 0, .int 0, .int 0]) : va_E)])[a]? = h[a]? := fun a ha => by rw [List.getElem?_append_left (by rw [List.length_append]; omega), List.getElem?_append_left ha]
  generalize ((h ++ [(.inr (0, [.null, .int 0, .int 0, .int 0]) : va_E)]) ++ [(.inr (0, [.null, .int 0, .int 0, .int 0]) : va_E)]) = hh at x2 x3 l2 lo ⊢
  refine am_dup dL_plant_7 rfl ?_
  refine mm_callI (As := []) (rest := [.ref (gz G + (B + 1 + 19)), .ref (gz G + (B + 19)), .ref (gz G + (B + 19))]) dL_plant_8 kML_44 rfl rfl (Nat.le_of_ble_eq_true rfl) (d2 := 2) (by omega) (k2 := 1) (by omega) (u2 := 16) (by omega) (bl_init l2 x3) (fun r1 h0 q3 => ?_)
  obtain ⟨rfl, b0, f0⟩ := q3
  refine am_room (k1 := k0 + 12) (u1 := u0 + 20200) ?_ (by omega) (by omega)
  have t0 : ([] : List Int32).length ≤ 0 := Nat.le_refl _
  refine am_ldcS (j := 21) dL_plant_11 rfl ?_
  refine bl_S (q := sq21) (rest := [.ref (gz G + (B + 19)), .ref (gz G + (B + 19))]) (s := 10) (k1 := k0 + 11) (u1 := u0 + 18200) dL_plant_13 kML_47 b0 rfl t0 (Nat.le_of_ble_eq_true rfl) (by omega) (Nat.le_of_ble_eq_true rfl) (by omega) (by omega) (by omega) (fun h1 b1 t1 f1 => ?_)
  have g1 := bf_T f0 f1
  refine am_aload_n dL_plant_16 0 rfl ?_
  refine am_iconst (v := 4) dL_plant_17 (by decide) ?_
  refine am_bipush (v := 60) dL_plant_18 (by decide) ?_
  refine am_callS (As := [.ref (gB G), .int (nI 4), .int (nI 60)]) (rest := [.ref (gz G + (B + 1 + 19)), .ref (gz G + (B + 19)), .ref (gz G + (B + 19))]) dL_plant_20 kML_34 rfl rfl (Nat.le_of_ble_eq_true rfl) (d2 := 0) (by omega) (k2 := 0) (Nat.zero_le _) (u2 := 0) (Nat.zero_le _) (Nat.le_of_ble_eq_true rfl) (ctL_draw (k := 4) (n := 60) hL (by omega) (by decide) (by decide)) (fun r1 h1 q3 => ?_)
  obtain ⟨rfl, rfl⟩ := q3
  refine bl_I (z := dw G 4 60) (rest := [.ref (gz G + (B + 19)), .ref (gz G + (B + 19))]) (k1 := k0 + 10) (u1 := u0 + 16200) dL_plant_23 kML_50 b1 (by omega) t1 (by omega) (Nat.le_of_ble_eq_true rfl) (by omega) (by omega) (by omega) (fun h2 b2 t2 f2 => ?_)
  have g2 := bf_T g1 f2
  refine am_ldcS (j := 22) dL_plant_26 rfl ?_
  refine bl_S (q := sq22) (rest := [.ref (gz G + (B + 19)), .ref (gz G + (B + 19))]) (s := 1) (k1 := k0 + 9) (u1 := u0 + 14200) dL_plant_28 kML_47 b2 rfl t2 (Nat.le_of_ble_eq_true rfl) (by omega) (Nat.le_of_ble_eq_true rfl) (by omega) (by omega) (by omega) (fun h3 b3 t3 f3 => ?_)
  have g3 := bf_T g2 f3
  refine am_aload_n dL_plant_31 0 rfl ?_
  refine am_iconst (v := 5) dL_plant_32 (by decide) ?_
  refine am_bipush (v := 9) dL_plant_33 (by decide) ?_
  refine am_callS (As := [.ref (gB G), .int (nI 5), .int (nI 9)]) (rest := [.ref (gz G + (B + 1 + 19)), .ref (gz G + (B + 19)), .ref (gz G + (B + 19))]) dL_plant_35 kML_34 rfl rfl (Nat.le_of_ble_eq_true rfl) (d2 := 0) (by omega) (k2 := 0) (Nat.zero_le _) (u2 := 0) (Nat.zero_le _) (Nat.le_of_ble_eq_true rfl) (ctL_draw (k := 5) (n := 9) hL (by omega) (by decide) (by decide)) (fun r1 h1 q3 => ?_)
  obtain ⟨rfl, rfl⟩ := q3
  refine bl_I (z := dw G 5 9) (rest := [.ref (gz G + (B + 19)), .ref (gz G + (B + 19))]) (k1 := k0 + 8) (u1 := u0 + 12200) dL_plant_38 kML_50 b3 (by omega) t3 (by omega) (Nat.le_of_ble_eq_true rfl) (by omega) (by omega) (by omega) (fun h4 b4 t4 f4 => ?_)
  have g4 := bf_T g3 f4
  refine am_ldcS (j := 23) dL_plant_41 rfl ?_
  refine bl_S (q := sq23) (rest := [.ref (gz G + (B + 19)), .ref (gz G + (B + 19))]) (s := 7) (k1 := k0 + 7) (u1 := u0 + 10200) dL_plant_43 kML_47 b4 rfl t4 (Nat.le_of_ble_eq_true rfl) (by omega) (Nat.le_of_ble_eq_true rfl) (by omega) (by omega) (by omega) (fun h5 b5 t5 f5 => ?_)
  have g5 := bf_T g4 f5
  refine am_aload_n dL_plant_46 0 rfl ?_
  refine am_callS (As := [.ref (gB G)]) (rest := [.ref (gz G + (B + 1 + 19)), .ref (gz G + (B + 19)), .ref (gz G + (B + 19))]) dL_plant_47 kML_57 rfl rfl (Nat.le_of_ble_eq_true rfl) (d2 := 1) (by omega) (k2 := 0) (Nat.zero_le _) (u2 := 0) (Nat.zero_le _) (Nat.le_of_ble_eq_true rfl) (ctL_steam hL) (fun r1 h1 q3 => ?_)
  obtain ⟨rfl, rfl⟩ := q3
  refine bl_I (z := stD G) (rest := [.ref (gz G + (B + 19)), .ref (gz G + (B + 19))]) (k1 := k0 + 6) (u1 := u0 + 8200) dL_plant_50 kML_50 b5 (by omega) t5 (by omega) (Nat.le_of_ble_eq_true rfl) (by omega) (by omega) (by omega) (fun h6 b6 t6 f6 => ?_)
  have g6 := bf_T g5 f6
  refine am_ldcS (j := 24) dL_plant_53 rfl ?_
  refine bl_S (q := sq24) (rest := [.ref (gz G + (B + 19)), .ref (gz G + (B + 19))]) (s := 5) (k1 := k0 + 5) (u1 := u0 + 6200) dL_plant_55 kML_47 b6 rfl t6 (Nat.le_of_ble_eq_true rfl) (by omega) (Nat.le_of_ble_eq_true rfl) (by omega) (by omega) (by omega) (fun h7 b7 t7 f7 => ?_)
  have g7 := bf_T g6 f7
  refine am_iconst (v := 1) dL_plant_58 (by decide) ?_
  refine am_aload_n dL_plant_59 0 rfl ?_
  refine am_bipush (v := 6) dL_plant_60 (by decide) ?_
  refine am_iconst (v := 3) dL_plant_62 (by decide) ?_
  refine am_callS (As := [.ref (gB G), .int (nI 6), .int (nI 3)]) (rest := [.int 1, .ref (gz G + (B + 1 + 19)), .ref (gz G + (B + 19)), .ref (gz G + (B + 19))]) dL_plant_63 kML_34 rfl rfl (Nat.le_of_ble_eq_true rfl) (d2 := 0) (by omega) (k2 := 0) (Nat.zero_le _) (u2 := 0) (Nat.zero_le _) (Nat.le_of_ble_eq_true rfl) (ctL_draw (k := 6) (n := 3) hL (by omega) (by decide) (by decide)) (fun r1 h1 q3 => ?_)
  obtain ⟨rfl, rfl⟩ := q3
  refine am_iadd dL_plant_66 ?_
  rw [show (1 : Int32) + nI (dw G 6 3) = nI (1 + dw G 6 3) from nI_add 1 _]
  refine bl_I (z := 1 + dw G 6 3) (rest := [.ref (gz G + (B + 19)), .ref (gz G + (B + 19))]) (k1 := k0 + 4) (u1 := u0 + 4200) dL_plant_67 kML_50 b7 (by omega) t7 (by omega) (Nat.le_of_ble_eq_true rfl) (by omega) (by omega) (by omega) (fun h8 b8 t8 f8 => ?_)
  have g8 := bf_T g7 f8
  refine am_ldcS (j := 25) dL_plant_70 rfl ?_
  refine bl_S (q := sq25) (rest := [.ref (gz G + (B + 19)), .ref (gz G + (B + 19))]) (s := 1) (k1 := k0 + 3) (u1 := u0 + 2200) dL_plant_72 kML_47 b8 rfl t8 (Nat.le_of_ble_eq_true rfl) (by omega) (Nat.le_of_ble_eq_true rfl) (by omega) (by omega) (by omega) (fun h9 b9 t9 f9 => ?_)
  have g9 := bf_T g8 f9
  obtain ⟨fs, hcb⟩ := bl_cell b9
  refine mm_callV (As := []) (rest := [.ref (gz G + (B + 19)), .ref (gz G + (B + 19))]) (i := B + 1 + 19) dL_plant_75 kML_64 rfl hcb rfl rfl (Nat.le_of_ble_eq_true rfl) (d2 := 5) (by omega) (k2 := 2) (by omega) (u2 := 4 + (((((((((([] : List Int32) ++ sq21.2.2.2) ++ numB (dw G 4 60)) ++ sq22.2.2.2) ++ numB (dw G 5 9)) ++ sq23.2.2.2) ++ numB (stD G)) ++ sq24.2.2.2) ++ numB (1 + dw G 6 3)) ++ sq25.2.2.2).length) (by omega) (bl_toStr b9) (fun r1 hs q3 => ?_)
  obtain ⟨rfl, s1, s2, s3⟩ := q3
  refine am_room (k1 := k0 + 1) (u1 := u0 + 1100) ?_ (by omega) (by omega)
  have x5 : hs[B + 19]? = some (.inr (0, [.null, .int 0, .int 0, .int 0])) := by rw [s3 _ (by have := g9.1; omega), g9.2 _ (by omega)]; exact x2
  have s4 : SD G (B + 20) hs h9.length (((((((((([] : List Int32) ++ sq21.2.2.2) ++ numB (dw G 4 60)) ++ sq22.2.2.2) ++ numB (dw G 5 9)) ++ sq23.2.2.2) ++ numB (stD G)) ++ sq24.2.2.2) ++ numB (1 + dw G 6 3)) ++ sq25.2.2.2) := sd_lo s1 (by have := g9.1; omega)
  refine mm_callI (As := [.ref (gz G + h9.length)]) (rest := [.ref (gz G + (B + 19))]) dL_plant_78 kML_68 rfl rfl (Nat.le_of_ble_eq_true rfl) (d2 := 8) (by omega) (k2 := 1) (by omega) (u2 := (((((((((([] : List Int32) ++ sq21.2.2.2) ++ numB (dw G 4 60)) ++ sq22.2.2.2) ++ numB (dw G 5 9)) ++ sq23.2.2.2) ++ numB (stD G)) ++ sq24.2.2.2) ++ numB (1 + dw G 6 3)) ++ sq25.2.2.2).length + 16) (by omega) (bl_initS x5 s4 (by omega)) (fun r1 hb q3 => ?_)
  obtain ⟨rfl, bb, fb⟩ := q3
  refine am_room (k1 := k0 + 0) (u1 := u0 + 0) ?_ (by omega) (by omega)
  have fr0 : ∀ a, a < h.length → hb[a]? = h[a]? := fun a ha => by rw [fb.2 a (by omega), s3 a (by have := g9.1; omega), g9.2 a (by omega), lo a ha]
  have ln0 : h.length ≤ hb.length := by have := fb.1; have := g9.1; omega
  have tb : ((((((((((([] : List Int32) ++ sq21.2.2.2) ++ numB (dw G 4 60)) ++ sq22.2.2.2) ++ numB (dw G 5 9)) ++ sq23.2.2.2) ++ numB (stD G)) ++ sq24.2.2.2) ++ numB (1 + dw G 6 3)) ++ sq25.2.2.2)).length ≤ 60 := by omega
  refine am_astore_n dL_plant_81 (by decide) (lv' := [(1, .ref (gz G + (B + 19))), (0, .ref (gB G))]) rfl ?_
  refine am_iconst (v := 0) dL_plant_82 (by decide) ?_
  refine am_istore_n dL_plant_83 (by decide) (lv' := [(2, .int 0), (1, .ref (gz G + (B + 19))), (0, .ref (gB G))]) rfl ?_
  exact am_room (kk B hb hB bb tb fr0 ln0) (by omega) (by omega)
theorem dL_plant_193 : decode cL_plant 193 = .ok (.aload_n 1, 1) := by decide +kernel
theorem dL_plant_194 : decode cL_plant 194 = .ok (.ldc 91, 2) := by decide +kernel
theorem dL_plant_196 : decode cL_plant 196 = .ok (.invokevirtual 47, 3) := by decide +kernel
theorem dL_plant_199 : decode cL_plant 199 = .ok (.sipush 700, 3) := by decide +kernel
theorem dL_plant_202 : decode cL_plant 202 = .ok (.aload_n 0, 1) := by decide +kernel
theorem dL_plant_203 : decode cL_plant 203 = .ok (.bipush 7, 2) := by decide +kernel
theorem dL_plant_205 : decode cL_plant 205 = .ok (.bipush 100, 2) := by decide +kernel
theorem dL_plant_207 : decode cL_plant 207 = .ok (.invokestatic 34, 3) := by decide +kernel
theorem dL_plant_210 : decode cL_plant 210 = .ok (.iadd, 1) := by decide +kernel
theorem dL_plant_211 : decode cL_plant 211 = .ok (.invokevirtual 50, 3) := by decide +kernel
theorem dL_plant_214 : decode cL_plant 214 = .ok (.ldc 93, 2) := by decide +kernel
theorem dL_plant_216 : decode cL_plant 216 = .ok (.invokevirtual 47, 3) := by decide +kernel
theorem dL_plant_219 : decode cL_plant 219 = .ok (.sipush 700, 3) := by decide +kernel
theorem dL_plant_222 : decode cL_plant 222 = .ok (.aload_n 0, 1) := by decide +kernel
theorem dL_plant_223 : decode cL_plant 223 = .ok (.bipush 8, 2) := by decide +kernel
theorem dL_plant_225 : decode cL_plant 225 = .ok (.bipush 100, 2) := by decide +kernel
theorem dL_plant_227 : decode cL_plant 227 = .ok (.invokestatic 34, 3) := by decide +kernel
theorem dL_plant_230 : decode cL_plant 230 = .ok (.iadd, 1) := by decide +kernel
theorem dL_plant_231 : decode cL_plant 231 = .ok (.invokevirtual 50, 3) := by decide +kernel
theorem dL_plant_234 : decode cL_plant 234 = .ok (.ldc 95, 2) := by decide +kernel
theorem dL_plant_236 : decode cL_plant 236 = .ok (.invokevirtual 47, 3) := by decide +kernel
theorem dL_plant_239 : decode cL_plant 239 = .ok (.pop, 1) := by decide +kernel
theorem dL_plant_240 : decode cL_plant 240 = .ok (.iconst 0, 1) := by decide +kernel
theorem dL_plant_241 : decode cL_plant 241 = .ok (.istore_n 2, 1) := by decide +kernel
set_option maxRecDepth 20000 in
theorem pl_size {l : Launch} {G : GM} {B j : Nat} {h : List va_E} {T : List Int32} {Q : Option Value → List va_E → Prop} (hL : gL G ≤ 260) {k0 u0 d : Nat} (hd : 9 ≤ d) (hb : BL G h B T) (ht : T.length ≤ 160) (kk : ∀ h1, BL G h1 B ((((((T ++ sq28.2.2.2) ++ numB (700 + dw G 7 100)) ++ sq29.2.2.2) ++ numB (700 + dw G 8 100)) ++ sq30.2.2.2)) → ((((((T ++ sq28.2.2.2) ++ numB (700 + dw G 7 100)) ++ sq29.2.2.2) ++ numB (700 + dw G 8 100)) ++ sq30.2.2.2)).length ≤ 300 → BF B h h1 → Tr l G mL_plant d k0 u0 242 [(2, .int (nI 0)), (1, .ref (gz G + (B + 19))), (0, .ref (gB G))] [] h1 Q) : Tr l G mL_plant d (k0 + 5) (u0 + 10000) 193 [(2, .int (nI j)), (1, .ref (gz G + (B + 19))), (0, .ref (gB G))] [] h Q := by
  have e7 := dw_lt G 7 (n := 100) (by decide)
  have e8 := dw_lt G 8 (n := 100) (by decide)
  refine am_aload_n dL_plant_193 1 rfl ?_
  refine am_ldcS (j := 28) dL_plant_194 rfl ?_
  refine bl_S (q := sq28) (rest := []) (s := 15) (k1 := k0 + 4) (u1 := u0 + 8000) dL_plant_196 kML_47 hb rfl ht (Nat.le_of_ble_eq_true rfl) (by omega) (Nat.le_of_ble_eq_true rfl) (by omega) (by omega) (by omega) (fun h1 b1 t1 f1 => ?_)
  refine am_sipush (v := 700) dL_plant_199 (by decide) ?_
  refine am_aload_n dL_plant_202 2 rfl ?_
  refine am_bipush (v := 7) dL_plant_203 (by decide) ?_
  refine am_bipush (v := 100) dL_plant_205 (by decide) ?_
  refine am_callS (As := [.ref (gB G), .int (nI 7), .int (nI 100)]) (rest := [.int 700, .ref (gz G + (B + 19))]) dL_plant_207 kML_34 rfl rfl (Nat.le_of_ble_eq_true rfl) (d2 := 0) (by omega) (k2 := 0) (Nat.zero_le _) (u2 := 0) (Nat.zero_le _) (Nat.le_of_ble_eq_true rfl) (ctL_draw (k := 7) (n := 100) hL (by omega) (by decide) (by decide)) (fun r1 h1 q3 => ?_)
  obtain ⟨rfl, rfl⟩ := q3
  refine am_iadd dL_plant_210 ?_
  rw [show (700 : Int32) + nI (dw G 7 100) = nI (700 + dw G 7 100) from nI_add 700 _]
  refine bl_I (z := 700 + dw G 7 100) (rest := []) (k1 := k0 + 3) (u1 := u0 + 6000) dL_plant_211 kML_50 b1 (by omega) t1 (by omega) (Nat.le_of_ble_eq_true rfl) (by omega) (by omega) (by omega) (fun h2 b2 t2 f2 => ?_)
  have g2 := bf_T f1 f2
  refine am_ldcS (j := 29) dL_plant_214 rfl ?_
  refine bl_S (q := sq29) (rest := []) (s := 12) (k1 := k0 + 2) (u1 := u0 + 4000) dL_plant_216 kML_47 b2 rfl t2 (Nat.le_of_ble_eq_true rfl) (by omega) (Nat.le_of_ble_eq_true rfl) (by omega) (by omega) (by omega) (fun h3 b3 t3 f3 => ?_)
  have g3 := bf_T g2 f3
  refine am_sipush (v := 700) dL_plant_219 (by decide) ?_
  refine am_aload_n dL_plant_222 2 rfl ?_
  refine am_bipush (v := 8) dL_plant_223 (by decide) ?_
  refine am_bipush (v := 100) dL_plant_225 (by decide) ?_
  refine am_callS (As := [.ref (gB G), .int (nI 8), .int (nI 100)]) (rest := [.int 700, .ref (gz G + (B + 19))]) dL_plant_227 kML_34 rfl rfl (Nat.le_of_ble_eq_true rfl) (d2 := 0) (by omega) (k2 := 0) (Nat.zero_le _) (u2 := 0) (Nat.zero_le _) (Nat.le_of_ble_eq_true rfl) (ctL_draw (k := 8) (n := 100) hL (by omega) (by decide) (by decide)) (fun r1 h1 q3 => ?_)
  obtain ⟨rfl, rfl⟩ := q3
  refine am_iadd dL_plant_230 ?_
  rw [show (700 : Int32) + nI (dw G 8 100) = nI (700 + dw G 8 100) from nI_add 700 _]
  refine bl_I (z := 700 + dw G 8 100) (rest := []) (k1 := k0 + 1) (u1 := u0 + 2000) dL_plant_231 kML_50 b3 (by omega) t3 (by omega) (Nat.le_of_ble_eq_true rfl) (by omega) (by omega) (by omega) (fun h4 b4 t4 f4 => ?_)
  have g4 := bf_T g3 f4
  refine am_ldcS (j := 30) dL_plant_234 rfl ?_
  refine bl_S (q := sq30) (rest := []) (s := 6) (k1 := k0 + 0) (u1 := u0 + 0) dL_plant_236 kML_47 b4 rfl t4 (Nat.le_of_ble_eq_true rfl) (by omega) (Nat.le_of_ble_eq_true rfl) (by omega) (by omega) (by omega) (fun h5 b5 t5 f5 => ?_)
  have g5 := bf_T g4 f5
  refine am_pop dL_plant_239 rfl ?_
  refine am_iconst (v := 0) dL_plant_240 (by decide) ?_
  refine am_istore_n dL_plant_241 (by decide) (lv' := [(2, .int 0), (1, .ref (gz G + (B + 19))), (0, .ref (gB G))]) rfl ?_
  exact am_room (kk h5 b5 (by omega) g5) (by omega) (by omega)
def lhB (G : GM) : List Int32 := (((((((((([] : List Int32) ++ sq21.2.2.2) ++ numB (dw G 4 60)) ++ sq22.2.2.2) ++ numB (dw G 5 9)) ++ sq23.2.2.2) ++ numB (stD G)) ++ sq24.2.2.2) ++ numB (1 + dw G 6 3)) ++ sq25.2.2.2)
def lzB (G : GM) (T : List Int32) : List Int32 := (((((T ++ sq28.2.2.2) ++ numB (700 + dw G 7 100)) ++ sq29.2.2.2) ++ numB (700 + dw G 8 100)) ++ sq30.2.2.2)
def lpT (G : GM) : List Int32 := lzB G (lhB G ++ (List.range' 0 (1 + dw G 2 2)).flatMap (lyB G) ++ (List.range' 0 (1 + dw G 1 3)).flatMap (lsB G)) ++ (List.range' 0 (dw G 0 9)).flatMap (lpB G)
theorem dL_plant_144 : decode cL_plant 144 = .ok (.iconst 0, 1) := by decide +kernel
theorem dL_plant_145 : decode cL_plant 145 = .ok (.istore_n 2, 1) := by decide +kernel
theorem dL_plant_323 : decode cL_plant 323 = .ok (.aload_n 1, 1) := by decide +kernel
theorem dL_plant_324 : decode cL_plant 324 = .ok (.invokevirtual 64, 3) := by decide +kernel
theorem dL_plant_327 : decode cL_plant 327 = .ok (.areturn, 1) := by decide +kernel
set_option maxRecDepth 20000 in
theorem ctL_plant {l : Launch} {G : GM} {h : List va_E} (hL : gL G ≤ 260) (hh : 221 ≤ h.length) : Ct l G mL_plant 9 123 233324 [.ref (gB G)] h (fun v h1 => ∃ si, v = some (.ref (gz G + si)) ∧ SD G h.length h1 si (lpT G) ∧ h.length ≤ h1.length ∧ ∀ a, a < h.length → h1[a]? = h[a]?) := by
  show Tr l G mL_plant 9 123 233324 0 [(0, .ref (gB G))] [] h _
  have n2 := dw_lt G 2 (n := 2) (by decide)
  have n1 := dw_lt G 1 (n := 3) (by decide)
  have n0 := dw_lt G 0 (n := 9) (by decide)
  refine am_room (k1 := (2 + 9 * dw G 0 9 + 5 + 5 * (1 + dw G 1 3) + 7 * (1 + dw G 2 2)) + 15) (u1 := (1100 + 18000 * dw G 0 9 + 10000 + 10000 * (1 + dw G 1 3) + 14000 * (1 + dw G 2 2)) + 20224) ?_ (by omega) (by omega)
  refine pl_head hL (Nat.le_refl _) hh (fun B hb hB b0 t0 g0 l0 => ?_)
  refine lp_y hL (Nat.le_refl _) (1 + dw G 2 2) 0 (Nat.zero_add _) hb _ b0 t0 (fun h1 b1 t1 f1 j1 e1 => ?_)
  refine am_iconst (v := 0) dL_plant_144 (by decide) ?_
  refine am_istore_n dL_plant_145 (by decide) (lv' := [(2, .int 0), (1, .ref (gz G + (B + 19))), (0, .ref (gB G))]) rfl ?_
  refine lp_s hL (Nat.le_refl _) (1 + dw G 1 3) 0 (Nat.zero_add _) h1 _ b1 (by omega) (fun h2 b2 t2 f2 j2 e2 => ?_)
  refine pl_size hL (Nat.le_refl _) b2 (by omega) (fun h3 b3 t3 f3 => ?_)
  refine lp_p hL (Nat.le_refl _) (dw G 0 9) 0 (Nat.zero_add _) h3 _ b3 (by omega) (fun h4 b4 t4 f4 j4 e4 => ?_)
  have g4 : ∀ a, a < h.length → h4[a]? = h[a]? := fun a ha => by rw [f4.2 a (by omega), f3.2 a (by omega), f2.2 a (by omega), f1.2 a (by omega), g0 a ha]
  have l4 : h.length ≤ h4.length := by have := f4.1; have := f3.1; have := f2.1; have := f1.1; omega
  have t5 : (lpT G).length ≤ 800 := Nat.le_trans t4 (by omega)
  have b4 : BL G h4 B (lpT G) := b4
  refine am_aload_n dL_plant_323 1 rfl ?_
  obtain ⟨fs, hcb⟩ := bl_cell b4
  refine mm_callV (As := []) (rest := []) (i := B + 19) dL_plant_324 kML_64 rfl hcb rfl rfl (Nat.le_of_ble_eq_true rfl) (d2 := 5) (by omega) (k2 := 2) (by omega) (u2 := 4 + (lpT G).length) (by omega) (bl_toStr b4) (fun r1 hs q3 => ?_)
  obtain ⟨rfl, s1, s2, s3⟩ := q3
  exact am_areturn dL_plant_327 rfl (Or.inl ⟨_, rfl⟩) ⟨_, rfl, sd_lo s1 (by omega), by omega, fun a ha => by rw [s3 a (by omega), g4 a ha]⟩
