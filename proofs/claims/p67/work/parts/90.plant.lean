/-! The law's plant(s): its loops. -/
def lyB (G : GM) (i : Nat) : List Int32 := sq26.2.2.2 ++ ([nI (97 + i)] ++ (sq22.2.2.2 ++ (numB (1 + dw G (14 + i) 60) ++ (sq22.2.2.2 ++ (numB (dw G (17 + i) 51) ++ sq25.2.2.2)))))
def lsB (G : GM) (i : Nat) : List Int32 := sq27.2.2.2 ++ ([nI (97 + i)] ++ (sq22.2.2.2 ++ (numB (700 + dw G (10 + i) 300) ++ sq25.2.2.2)))
def lpB (G : GM) (i : Nat) : List Int32 := sq31.2.2.2 ++ ([nI (97 + dw G (30 + 4 * i) (1 + dw G 2 2))] ++ (sq22.2.2.2 ++ ((kdq (dw G (31 + 4 * i) 4 % 3)).2.2.2 ++ (sq22.2.2.2 ++ (numB (650 + dw G (32 + 4 * i) 60) ++ (sq22.2.2.2 ++ (numB (100 + dw G (33 + 4 * i) 12) ++ sq25.2.2.2)))))))
theorem ic_nI {c : Nat} (h : c < 128) : ichr (nI c) = nI c := (by decide +kernel : ∀ c, c < 128 → ichr (nI c) = nI c) c h
theorem kd_tab {a : Nat} (h : a < 3) : ∃ q, strTab[53 + a]? = some q ∧ q.2.2.2 = (kdq a).2.2.2 ∧ q.2.2.2.length ≤ 6 := by
  rcases (show a = 0 ∨ a = 1 ∨ a = 2 by omega) with rfl | rfl | rfl
  · exact ⟨_, rfl, rfl, by decide⟩
  · exact ⟨_, rfl, rfl, by decide⟩
  · exact ⟨_, rfl, rfl, by decide⟩
theorem dL_plant_84 : decode cL_plant 84 = .ok (.iload_n 2, 1) := by decide +kernel
theorem dL_plant_85 : decode cL_plant 85 = .ok (.aload_n 0, 1) := by decide +kernel
theorem dL_plant_86 : decode cL_plant 86 = .ok (.invokestatic 38, 3) := by decide +kernel
theorem dL_plant_89 : decode cL_plant 89 = .ok (.if_icmp .ge 55, 3) := by decide +kernel
theorem dL_plant_92 : decode cL_plant 92 = .ok (.aload_n 1, 1) := by decide +kernel
theorem dL_plant_93 : decode cL_plant 93 = .ok (.ldc 71, 2) := by decide +kernel
theorem dL_plant_95 : decode cL_plant 95 = .ok (.invokevirtual 47, 3) := by decide +kernel
theorem dL_plant_98 : decode cL_plant 98 = .ok (.bipush 97, 2) := by decide +kernel
theorem dL_plant_100 : decode cL_plant 100 = .ok (.iload_n 2, 1) := by decide +kernel
theorem dL_plant_101 : decode cL_plant 101 = .ok (.iadd, 1) := by decide +kernel
theorem dL_plant_102 : decode cL_plant 102 = .ok (.i2c, 1) := by decide +kernel
theorem dL_plant_103 : decode cL_plant 103 = .ok (.invokevirtual 73, 3) := by decide +kernel
theorem dL_plant_106 : decode cL_plant 106 = .ok (.ldc 53, 2) := by decide +kernel
theorem dL_plant_108 : decode cL_plant 108 = .ok (.invokevirtual 47, 3) := by decide +kernel
theorem dL_plant_111 : decode cL_plant 111 = .ok (.aload_n 0, 1) := by decide +kernel
theorem dL_plant_112 : decode cL_plant 112 = .ok (.iload_n 2, 1) := by decide +kernel
theorem dL_plant_113 : decode cL_plant 113 = .ok (.invokestatic 76, 3) := by decide +kernel
theorem dL_plant_116 : decode cL_plant 116 = .ok (.invokevirtual 50, 3) := by decide +kernel
theorem dL_plant_119 : decode cL_plant 119 = .ok (.ldc 53, 2) := by decide +kernel
theorem dL_plant_121 : decode cL_plant 121 = .ok (.invokevirtual 47, 3) := by decide +kernel
theorem dL_plant_124 : decode cL_plant 124 = .ok (.aload_n 0, 1) := by decide +kernel
theorem dL_plant_125 : decode cL_plant 125 = .ok (.iload_n 2, 1) := by decide +kernel
theorem dL_plant_126 : decode cL_plant 126 = .ok (.invokestatic 80, 3) := by decide +kernel
theorem dL_plant_129 : decode cL_plant 129 = .ok (.invokevirtual 50, 3) := by decide +kernel
theorem dL_plant_132 : decode cL_plant 132 = .ok (.ldc 62, 2) := by decide +kernel
theorem dL_plant_134 : decode cL_plant 134 = .ok (.invokevirtual 47, 3) := by decide +kernel
theorem dL_plant_137 : decode cL_plant 137 = .ok (.pop, 1) := by decide +kernel
theorem dL_plant_138 : decode cL_plant 138 = .ok (.iinc 2 1, 3) := by decide +kernel
theorem dL_plant_141 : decode cL_plant 141 = .ok (.goto (-57), 3) := by decide +kernel
set_option maxRecDepth 20000 in
theorem lp_y {l : Launch} {G : GM} {B : Nat} {Q : Option Value → List va_E → Prop} (hL : gL G ≤ 260) {k0 u0 : Nat} {d : Nat} (hd : 9 ≤ d) : ∀ (r i : Nat), i + r = 1 + dw G 2 2 → ∀ (h : List va_E) (T : List Int32), BL G h B T → T.length ≤ 60 + 20 * i → (∀ h1, BL G h1 B (T ++ (List.range' i r).flatMap (lyB G)) → (T ++ (List.range' i r).flatMap (lyB G)).length ≤ 60 + 20 * (i + r) → BF B h h1 → ∀ j, j = i + r → Tr l G mL_plant d k0 u0 144 [(2, .int (nI j)), (1, .ref (gz G + (B + 19))), (0, .ref (gB G))] [] h1 Q) → Tr l G mL_plant d (k0 + 7 * r) (u0 + 14000 * r) 84 [(2, .int (nI i)), (1, .ref (gz G + (B + 19))), (0, .ref (gB G))] [] h Q := by
  have hN := dw_lt G 2 (n := 2) (by decide)
  intro r
  induction r with
  | zero =>
    intro i hi h T hb ht kk
    refine am_iload_n dL_plant_84 0 rfl ?_
    refine am_aload_n dL_plant_85 2 rfl ?_
    refine am_callS (As := [.ref (gB G)]) (rest := [.int (nI i)]) dL_plant_86 kML_38 rfl rfl (Nat.le_of_ble_eq_true rfl) (d2 := 1) (by omega) (k2 := 0) (Nat.zero_le _) (u2 := 0) (Nat.zero_le _) (Nat.le_of_ble_eq_true rfl) (ctL_yarns hL) (fun r1 h1 q3 => ?_)
    obtain ⟨rfl, rfl⟩ := q3
    refine am_icmp_ge dL_plant_89 (by decide : ((89 : Nat) : Int) + (55) = ((144 : Nat) : Int)) (fun _ => ?_) (fun zq => absurd (by rw [nI_leI (by omega) (by omega)]; omega) zq)
    exact kk _ (by rw [List.range'_zero, List.flatMap_nil, List.append_nil]; exact hb) (by rw [List.range'_zero, List.flatMap_nil, List.append_nil]; omega) (bf_0 _ _) i (by omega)
  | succ r ih =>
    intro i hi h T hb ht kk
    refine am_room (k1 := k0 + 7 * r + 7) (u1 := u0 + 14000 * r + 14000) ?_ (by omega) (by omega)
    refine am_iload_n dL_plant_84 0 rfl ?_
    refine am_aload_n dL_plant_85 2 rfl ?_
    refine am_callS (As := [.ref (gB G)]) (rest := [.int (nI i)]) dL_plant_86 kML_38 rfl rfl (Nat.le_of_ble_eq_true rfl) (d2 := 1) (by omega) (k2 := 0) (Nat.zero_le _) (u2 := 0) (Nat.zero_le _) (Nat.le_of_ble_eq_true rfl) (ctL_yarns hL) (fun r1 h1 q3 => ?_)
    obtain ⟨rfl, rfl⟩ := q3
    refine am_icmp_ge dL_plant_89 (by decide : ((89 : Nat) : Int) + (55) = ((144 : Nat) : Int)) (fun zq => absurd zq (by rw [nI_leI (by omega) (by omega)]; omega)) (fun _ => ?_)
    refine am_aload_n dL_plant_92 1 rfl ?_
    refine am_ldcS (j := 26) dL_plant_93 rfl ?_
    refine bl_S (q := sq26) (rest := []) (s := 6) (k1 := (k0 + 7 * r) + 6) (u1 := (u0 + 14000 * r) + 12000) dL_plant_95 kML_47 hb rfl ht (Nat.le_of_ble_eq_true rfl) (by omega) (Nat.le_of_ble_eq_true rfl) (by omega) (by omega) (by omega) (fun h1 b1 t1 f1 => ?_)
    refine am_bipush (v := 97) dL_plant_98 (by decide) ?_
    refine am_iload_n dL_plant_100 0 rfl ?_
    refine am_iadd dL_plant_101 ?_
    rw [show (97 : Int32) + nI i = nI (97 + i) from nI_add 97 i]
    refine am_i2c (v := nI (97 + i)) dL_plant_102 (ic_nI (by omega)) ?_
    refine bl_C (c := 97 + i) (rest := []) (k1 := (k0 + 7 * r) + 5) (u1 := (u0 + 14000 * r) + 10000) dL_plant_103 kML_73 b1 (by omega) t1 (by omega) (Nat.le_of_ble_eq_true rfl) (by omega) (by omega) (by omega) (fun h2 b2 t2 f2 => ?_)
    have g2 := bf_T f1 f2
    refine am_ldcS (j := 22) dL_plant_106 rfl ?_
    refine bl_S (q := sq22) (rest := []) (s := 1) (k1 := (k0 + 7 * r) + 4) (u1 := (u0 + 14000 * r) + 8000) dL_plant_108 kML_47 b2 rfl t2 (Nat.le_of_ble_eq_true rfl) (by omega) (Nat.le_of_ble_eq_true rfl) (by omega) (by omega) (by omega) (fun h3 b3 t3 f3 => ?_)
    have g3 := bf_T g2 f3
    refine am_aload_n dL_plant_111 2 rfl ?_
    refine am_iload_n dL_plant_112 0 rfl ?_
    refine am_callS (As := [.ref (gB G), .int (nI i)]) (rest := [.ref (gz G + (B + 19))]) dL_plant_113 kML_76 rfl rfl (Nat.le_of_ble_eq_true rfl) (d2 := 2) (by omega) (k2 := 0) (Nat.zero_le _) (u2 := 0) (Nat.zero_le _) (Nat.le_of_ble_eq_true rfl) (ctL_stretch hL (by omega)) (fun r1 h1 q3 => ?_)
    obtain ⟨rfl, rfl⟩ := q3
    refine bl_I (z := 1 + dw G (14 + i) 60) (rest := []) (k1 := (k0 + 7 * r) + 3) (u1 := (u0 + 14000 * r) + 6000) dL_plant_116 kML_50 b3 (by have := dw_lt G (14 + i) (n := 60) (by decide); omega) t3 (by omega) (Nat.le_of_ble_eq_true rfl) (by omega) (by omega) (by omega) (fun h4 b4 t4 f4 => ?_)
    have g4 := bf_T g3 f4
    refine am_ldcS (j := 22) dL_plant_119 rfl ?_
    refine bl_S (q := sq22) (rest := []) (s := 1) (k1 := (k0 + 7 * r) + 2) (u1 := (u0 + 14000 * r) + 4000) dL_plant_121 kML_47 b4 rfl t4 (Nat.le_of_ble_eq_true rfl) (by omega) (Nat.le_of_ble_eq_true rfl) (by omega) (by omega) (by omega) (fun h5 b5 t5 f5 => ?_)
    have g5 := bf_T g4 f5
    refine am_aload_n dL_plant_124 2 rfl ?_
    refine am_iload_n dL_plant_125 0 rfl ?_
    refine am_callS (As := [.ref (gB G), .int (nI i)]) (rest := [.ref (gz G + (B + 19))]) dL_plant_126 kML_80 rfl rfl (Nat.le_of_ble_eq_true rfl) (d2 := 2) (by omega) (k2 := 0) (Nat.zero_le _) (u2 := 0) (Nat.zero_le _) (Nat.le_of_ble_eq_true rfl) (ctL_recovery hL (by omega)) (fun r1 h1 q3 => ?_)
    obtain ⟨rfl, rfl⟩ := q3
    refine bl_I (z := dw G (17 + i) 51) (rest := []) (k1 := (k0 + 7 * r) + 1) (u1 := (u0 + 14000 * r) + 2000) dL_plant_129 kML_50 b5 (by have := dw_lt G (17 + i) (n := 51) (by decide); omega) t5 (by omega) (Nat.le_of_ble_eq_true rfl) (by omega) (by omega) (by omega) (fun h6 b6 t6 f6 => ?_)
    have g6 := bf_T g5 f6
    refine am_ldcS (j := 25) dL_plant_132 rfl ?_
    refine bl_S (q := sq25) (rest := []) (s := 1) (k1 := (k0 + 7 * r) + 0) (u1 := (u0 + 14000 * r) + 0) dL_plant_134 kML_47 b6 rfl t6 (Nat.le_of_ble_eq_true rfl) (by omega) (Nat.le_of_ble_eq_true rfl) (by omega) (by omega) (by omega) (fun h7 b7 t7 f7 => ?_)
    have g7 := bf_T g6 f7
    refine am_pop dL_plant_137 rfl ?_
    refine am_iinc (v := (nI (i + 1))) dL_plant_138 0 rfl (nI_1 i) (by decide) (lv' := [(2, .int (nI (i + 1))), (1, .ref (gz G + (B + 19))), (0, .ref (gB G))]) rfl ?_
    refine am_goto dL_plant_141 (by decide : ((141 : Nat) : Int) + (-57) = ((84 : Nat) : Int)) ?_
    have eT : (((((((T ++ sq26.2.2.2) ++ [nI (97 + i)]) ++ sq22.2.2.2) ++ numB (1 + dw G (14 + i) 60)) ++ sq22.2.2.2) ++ numB (dw G (17 + i) 51)) ++ sq25.2.2.2) = T ++ lyB G i := by unfold lyB; simp only [List.append_assoc]
    rw [eT] at b7 t7
    refine ih (i + 1) (by omega) h7 (T ++ lyB G i) b7 (by omega) (fun h9 c1 c2 c3 j c4 => ?_)
    refine kk h9 ?_ (by rw [List.range'_succ, List.flatMap_cons, ← List.append_assoc]; omega) (bf_T g7 c3) j (by omega)
    rw [List.range'_succ, List.flatMap_cons, ← List.append_assoc]
    exact c1
theorem dL_plant_146 : decode cL_plant 146 = .ok (.iload_n 2, 1) := by decide +kernel
theorem dL_plant_147 : decode cL_plant 147 = .ok (.aload_n 0, 1) := by decide +kernel
theorem dL_plant_148 : decode cL_plant 148 = .ok (.invokestatic 83, 3) := by decide +kernel
theorem dL_plant_151 : decode cL_plant 151 = .ok (.if_icmp .ge 42, 3) := by decide +kernel
theorem dL_plant_154 : decode cL_plant 154 = .ok (.aload_n 1, 1) := by decide +kernel
theorem dL_plant_155 : decode cL_plant 155 = .ok (.ldc 86, 2) := by decide +kernel
theorem dL_plant_157 : decode cL_plant 157 = .ok (.invokevirtual 47, 3) := by decide +kernel
theorem dL_plant_160 : decode cL_plant 160 = .ok (.bipush 97, 2) := by decide +kernel
theorem dL_plant_162 : decode cL_plant 162 = .ok (.iload_n 2, 1) := by decide +kernel
theorem dL_plant_163 : decode cL_plant 163 = .ok (.iadd, 1) := by decide +kernel
theorem dL_plant_164 : decode cL_plant 164 = .ok (.i2c, 1) := by decide +kernel
theorem dL_plant_165 : decode cL_plant 165 = .ok (.invokevirtual 73, 3) := by decide +kernel
theorem dL_plant_168 : decode cL_plant 168 = .ok (.ldc 53, 2) := by decide +kernel
theorem dL_plant_170 : decode cL_plant 170 = .ok (.invokevirtual 47, 3) := by decide +kernel
theorem dL_plant_173 : decode cL_plant 173 = .ok (.aload_n 0, 1) := by decide +kernel
theorem dL_plant_174 : decode cL_plant 174 = .ok (.iload_n 2, 1) := by decide +kernel
theorem dL_plant_175 : decode cL_plant 175 = .ok (.invokestatic 88, 3) := by decide +kernel
theorem dL_plant_178 : decode cL_plant 178 = .ok (.invokevirtual 50, 3) := by decide +kernel
theorem dL_plant_181 : decode cL_plant 181 = .ok (.ldc 62, 2) := by decide +kernel
theorem dL_plant_183 : decode cL_plant 183 = .ok (.invokevirtual 47, 3) := by decide +kernel
theorem dL_plant_186 : decode cL_plant 186 = .ok (.pop, 1) := by decide +kernel
theorem dL_plant_187 : decode cL_plant 187 = .ok (.iinc 2 1, 3) := by decide +kernel
theorem dL_plant_190 : decode cL_plant 190 = .ok (.goto (-44), 3) := by decide +kernel
set_option maxRecDepth 20000 in
theorem lp_s {l : Launch} {G : GM} {B : Nat} {Q : Option Value → List va_E → Prop} (hL : gL G ≤ 260) {k0 u0 : Nat} {d : Nat} (hd : 9 ≤ d) : ∀ (r i : Nat), i + r = 1 + dw G 1 3 → ∀ (h : List va_E) (T : List Int32), BL G h B T → T.length ≤ 100 + 20 * i → (∀ h1, BL G h1 B (T ++ (List.range' i r).flatMap (lsB G)) → (T ++ (List.range' i r).flatMap (lsB G)).length ≤ 100 + 20 * (i + r) → BF B h h1 → ∀ j, j = i + r → Tr l G mL_plant d k0 u0 193 [(2, .int (nI j)), (1, .ref (gz G + (B + 19))), (0, .ref (gB G))] [] h1 Q) → Tr l G mL_plant d (k0 + 5 * r) (u0 + 10000 * r) 146 [(2, .int (nI i)), (1, .ref (gz G + (B + 19))), (0, .ref (gB G))] [] h Q := by
  have hN := dw_lt G 1 (n := 3) (by decide)
  intro r
  induction r with
  | zero =>
    intro i hi h T hb ht kk
    refine am_iload_n dL_plant_146 0 rfl ?_
    refine am_aload_n dL_plant_147 2 rfl ?_
    refine am_callS (As := [.ref (gB G)]) (rest := [.int (nI i)]) dL_plant_148 kML_83 rfl rfl (Nat.le_of_ble_eq_true rfl) (d2 := 1) (by omega) (k2 := 0) (Nat.zero_le _) (u2 := 0) (Nat.zero_le _) (Nat.le_of_ble_eq_true rfl) (ctL_shapes hL) (fun r1 h1 q3 => ?_)
    obtain ⟨rfl, rfl⟩ := q3
    refine am_icmp_ge dL_plant_151 (by decide : ((151 : Nat) : Int) + (42) = ((193 : Nat) : Int)) (fun _ => ?_) (fun zq => absurd (by rw [nI_leI (by omega) (by omega)]; omega) zq)
    exact kk _ (by rw [List.range'_zero, List.flatMap_nil, List.append_nil]; exact hb) (by rw [List.range'_zero, List.flatMap_nil, List.append_nil]; omega) (bf_0 _ _) i (by omega)
  | succ r ih =>
    intro i hi h T hb ht kk
    refine am_room (k1 := k0 + 5 * r + 5) (u1 := u0 + 10000 * r + 10000) ?_ (by omega) (by omega)
    refine am_iload_n dL_plant_146 0 rfl ?_
    refine am_aload_n dL_plant_147 2 rfl ?_
    refine am_callS (As := [.ref (gB G)]) (rest := [.int (nI i)]) dL_plant_148 kML_83 rfl rfl (Nat.le_of_ble_eq_true rfl) (d2 := 1) (by omega) (k2 := 0) (Nat.zero_le _) (u2 := 0) (Nat.zero_le _) (Nat.le_of_ble_eq_true rfl) (ctL_shapes hL) (fun r1 h1 q3 => ?_)
    obtain ⟨rfl, rfl⟩ := q3
    refine am_icmp_ge dL_plant_151 (by decide : ((151 : Nat) : Int) + (42) = ((193 : Nat) : Int)) (fun zq => absurd zq (by rw [nI_leI (by omega) (by omega)]; omega)) (fun _ => ?_)
    refine am_aload_n dL_plant_154 1 rfl ?_
    refine am_ldcS (j := 27) dL_plant_155 rfl ?_
    refine bl_S (q := sq27) (rest := []) (s := 7) (k1 := (k0 + 5 * r) + 4) (u1 := (u0 + 10000 * r) + 8000) dL_plant_157 kML_47 hb rfl ht (Nat.le_of_ble_eq_true rfl) (by omega) (Nat.le_of_ble_eq_true rfl) (by omega) (by omega) (by omega) (fun h1 b1 t1 f1 => ?_)
    refine am_bipush (v := 97) dL_plant_160 (by decide) ?_
    refine am_iload_n dL_plant_162 0 rfl ?_
    refine am_iadd dL_plant_163 ?_
    rw [show (97 : Int32) + nI i = nI (97 + i) from nI_add 97 i]
    refine am_i2c (v := nI (97 + i)) dL_plant_164 (ic_nI (by omega)) ?_
    refine bl_C (c := 97 + i) (rest := []) (k1 := (k0 + 5 * r) + 3) (u1 := (u0 + 10000 * r) + 6000) dL_plant_165 kML_73 b1 (by omega) t1 (by omega) (Nat.le_of_ble_eq_true rfl) (by omega) (by omega) (by omega) (fun h2 b2 t2 f2 => ?_)
    have g2 := bf_T f1 f2
    refine am_ldcS (j := 22) dL_plant_168 rfl ?_
    refine bl_S (q := sq22) (rest := []) (s := 1) (k1 := (k0 + 5 * r) + 2) (u1 := (u0 + 10000 * r) + 4000) dL_plant_170 kML_47 b2 rfl t2 (Nat.le_of_ble_eq_true rfl) (by omega) (Nat.le_of_ble_eq_true rfl) (by omega) (by omega) (by omega) (fun h3 b3 t3 f3 => ?_)
    have g3 := bf_T g2 f3
    refine am_aload_n dL_plant_173 2 rfl ?_
    refine am_iload_n dL_plant_174 0 rfl ?_
    refine am_callS (As := [.ref (gB G), .int (nI i)]) (rest := [.ref (gz G + (B + 19))]) dL_plant_175 kML_88 rfl rfl (Nat.le_of_ble_eq_true rfl) (d2 := 2) (by omega) (k2 := 0) (Nat.zero_le _) (u2 := 0) (Nat.zero_le _) (Nat.le_of_ble_eq_true rfl) (ctL_shape hL (by omega)) (fun r1 h1 q3 => ?_)
    obtain ⟨rfl, rfl⟩ := q3
    refine bl_I (z := 700 + dw G (10 + i) 300) (rest := []) (k1 := (k0 + 5 * r) + 1) (u1 := (u0 + 10000 * r) + 2000) dL_plant_178 kML_50 b3 (by have := dw_lt G (10 + i) (n := 300) (by decide); omega) t3 (by omega) (Nat.le_of_ble_eq_true rfl) (by omega) (by omega) (by omega) (fun h4 b4 t4 f4 => ?_)
    have g4 := bf_T g3 f4
    refine am_ldcS (j := 25) dL_plant_181 rfl ?_
    refine bl_S (q := sq25) (rest := []) (s := 1) (k1 := (k0 + 5 * r) + 0) (u1 := (u0 + 10000 * r) + 0) dL_plant_183 kML_47 b4 rfl t4 (Nat.le_of_ble_eq_true rfl) (by omega) (Nat.le_of_ble_eq_true rfl) (by omega) (by omega) (by omega) (fun h5 b5 t5 f5 => ?_)
    have g5 := bf_T g4 f5
    refine am_pop dL_plant_186 rfl ?_
    refine am_iinc (v := (nI (i + 1))) dL_plant_187 0 rfl (nI_1 i) (by decide) (lv' := [(2, .int (nI (i + 1))), (1, .ref (gz G + (B + 19))), (0, .ref (gB G))]) rfl ?_
    refine am_goto dL_plant_190 (by decide : ((190 : Nat) : Int) + (-44) = ((146 : Nat) : Int)) ?_
    have eT : (((((T ++ sq27.2.2.2) ++ [nI (97 + i)]) ++ sq22.2.2.2) ++ numB (700 + dw G (10 + i) 300)) ++ sq25.2.2.2) = T ++ lsB G i := by unfold lsB; simp only [List.append_assoc]
    rw [eT] at b5 t5
    refine ih (i + 1) (by omega) h5 (T ++ lsB G i) b5 (by omega) (fun h9 c1 c2 c3 j c4 => ?_)
    refine kk h9 ?_ (by rw [List.range'_succ, List.flatMap_cons, ← List.append_assoc]; omega) (bf_T g5 c3) j (by omega)
    rw [List.range'_succ, List.flatMap_cons, ← List.append_assoc]
    exact c1
theorem dL_plant_242 : decode cL_plant 242 = .ok (.iload_n 2, 1) := by decide +kernel
theorem dL_plant_243 : decode cL_plant 243 = .ok (.aload_n 0, 1) := by decide +kernel
theorem dL_plant_244 : decode cL_plant 244 = .ok (.invokestatic 97, 3) := by decide +kernel
theorem dL_plant_247 : decode cL_plant 247 = .ok (.if_icmp .ge 76, 3) := by decide +kernel
theorem dL_plant_250 : decode cL_plant 250 = .ok (.aload_n 1, 1) := by decide +kernel
theorem dL_plant_251 : decode cL_plant 251 = .ok (.ldc 100, 2) := by decide +kernel
theorem dL_plant_253 : decode cL_plant 253 = .ok (.invokevirtual 47, 3) := by decide +kernel
theorem dL_plant_256 : decode cL_plant 256 = .ok (.bipush 97, 2) := by decide +kernel
theorem dL_plant_258 : decode cL_plant 258 = .ok (.aload_n 0, 1) := by decide +kernel
theorem dL_plant_259 : decode cL_plant 259 = .ok (.iload_n 2, 1) := by decide +kernel
theorem dL_plant_260 : decode cL_plant 260 = .ok (.invokestatic 102, 3) := by decide +kernel
theorem dL_plant_263 : decode cL_plant 263 = .ok (.iadd, 1) := by decide +kernel
theorem dL_plant_264 : decode cL_plant 264 = .ok (.i2c, 1) := by decide +kernel
theorem dL_plant_265 : decode cL_plant 265 = .ok (.invokevirtual 73, 3) := by decide +kernel
theorem dL_plant_268 : decode cL_plant 268 = .ok (.ldc 53, 2) := by decide +kernel
theorem dL_plant_270 : decode cL_plant 270 = .ok (.invokevirtual 47, 3) := by decide +kernel
theorem dL_plant_273 : decode cL_plant 273 = .ok (.getstatic 105, 3) := by decide +kernel
theorem dL_plant_276 : decode cL_plant 276 = .ok (.aload_n 0, 1) := by decide +kernel
theorem dL_plant_277 : decode cL_plant 277 = .ok (.iload_n 2, 1) := by decide +kernel
theorem dL_plant_278 : decode cL_plant 278 = .ok (.invokestatic 109, 3) := by decide +kernel
theorem dL_plant_281 : decode cL_plant 281 = .ok (.aaload, 1) := by decide +kernel
theorem dL_plant_282 : decode cL_plant 282 = .ok (.invokevirtual 47, 3) := by decide +kernel
theorem dL_plant_285 : decode cL_plant 285 = .ok (.ldc 53, 2) := by decide +kernel
theorem dL_plant_287 : decode cL_plant 287 = .ok (.invokevirtual 47, 3) := by decide +kernel
theorem dL_plant_290 : decode cL_plant 290 = .ok (.aload_n 0, 1) := by decide +kernel
theorem dL_plant_291 : decode cL_plant 291 = .ok (.iload_n 2, 1) := by decide +kernel
theorem dL_plant_292 : decode cL_plant 292 = .ok (.invokestatic 112, 3) := by decide +kernel
theorem dL_plant_295 : decode cL_plant 295 = .ok (.invokevirtual 50, 3) := by decide +kernel
theorem dL_plant_298 : decode cL_plant 298 = .ok (.ldc 53, 2) := by decide +kernel
theorem dL_plant_300 : decode cL_plant 300 = .ok (.invokevirtual 47, 3) := by decide +kernel
theorem dL_plant_303 : decode cL_plant 303 = .ok (.aload_n 0, 1) := by decide +kernel
theorem dL_plant_304 : decode cL_plant 304 = .ok (.iload_n 2, 1) := by decide +kernel
theorem dL_plant_305 : decode cL_plant 305 = .ok (.invokestatic 115, 3) := by decide +kernel
theorem dL_plant_308 : decode cL_plant 308 = .ok (.invokevirtual 50, 3) := by decide +kernel
theorem dL_plant_311 : decode cL_plant 311 = .ok (.ldc 62, 2) := by decide +kernel
theorem dL_plant_313 : decode cL_plant 313 = .ok (.invokevirtual 47, 3) := by decide +kernel
theorem dL_plant_316 : decode cL_plant 316 = .ok (.pop, 1) := by decide +kernel
theorem dL_plant_317 : decode cL_plant 317 = .ok (.iinc 2 1, 3) := by decide +kernel
theorem dL_plant_320 : decode cL_plant 320 = .ok (.goto (-78), 3) := by decide +kernel
set_option maxRecDepth 20000 in
theorem lp_p {l : Launch} {G : GM} {B : Nat} {Q : Option Value → List va_E → Prop} (hL : gL G ≤ 260) {k0 u0 : Nat} {d : Nat} (hd : 9 ≤ d) : ∀ (r i : Nat), i + r = dw G 0 9 → ∀ (h : List va_E) (T : List Int32), BL G h B T → T.length ≤ 300 + 40 * i → (∀ h1, BL G h1 B (T ++ (List.range' i r).flatMap (lpB G)) → (T ++ (List.range' i r).flatMap (lpB G)).length ≤ 300 + 40 * (i + r) → BF B h h1 → ∀ j, j = i + r → Tr l G mL_plant d k0 u0 323 [(2, .int (nI j)), (1, .ref (gz G + (B + 19))), (0, .ref (gB G))] [] h1 Q) → Tr l G mL_plant d (k0 + 9 * r) (u0 + 18000 * r) 242 [(2, .int (nI i)), (1, .ref (gz G + (B + 19))), (0, .ref (gB G))] [] h Q := by
  have hN := dw_lt G 0 (n := 9) (by decide)
  have hy2 := dw_lt G 2 (n := 2) (by decide)
  intro r
  induction r with
  | zero =>
    intro i hi h T hb ht kk
    refine am_iload_n dL_plant_242 0 rfl ?_
    refine am_aload_n dL_plant_243 2 rfl ?_
    refine am_callS (As := [.ref (gB G)]) (rest := [.int (nI i)]) dL_plant_244 kML_97 rfl rfl (Nat.le_of_ble_eq_true rfl) (d2 := 1) (by omega) (k2 := 0) (Nat.zero_le _) (u2 := 0) (Nat.zero_le _) (Nat.le_of_ble_eq_true rfl) (ctL_pieces hL) (fun r1 h1 q3 => ?_)
    obtain ⟨rfl, rfl⟩ := q3
    refine am_icmp_ge dL_plant_247 (by decide : ((247 : Nat) : Int) + (76) = ((323 : Nat) : Int)) (fun _ => ?_) (fun zq => absurd (by rw [nI_leI (by omega) (by omega)]; omega) zq)
    exact kk _ (by rw [List.range'_zero, List.flatMap_nil, List.append_nil]; exact hb) (by rw [List.range'_zero, List.flatMap_nil, List.append_nil]; omega) (bf_0 _ _) i (by omega)
  | succ r ih =>
    intro i hi h T hb ht kk
    refine am_room (k1 := k0 + 9 * r + 9) (u1 := u0 + 18000 * r + 18000) ?_ (by omega) (by omega)
    refine am_iload_n dL_plant_242 0 rfl ?_
    refine am_aload_n dL_plant_243 2 rfl ?_
    refine am_callS (As := [.ref (gB G)]) (rest := [.int (nI i)]) dL_plant_244 kML_97 rfl rfl (Nat.le_of_ble_eq_true rfl) (d2 := 1) (by omega) (k2 := 0) (Nat.zero_le _) (u2 := 0) (Nat.zero_le _) (Nat.le_of_ble_eq_true rfl) (ctL_pieces hL) (fun r1 h1 q3 => ?_)
    obtain ⟨rfl, rfl⟩ := q3
    refine am_icmp_ge dL_plant_247 (by decide : ((247 : Nat) : Int) + (76) = ((323 : Nat) : Int)) (fun zq => absurd zq (by rw [nI_leI (by omega) (by omega)]; omega)) (fun _ => ?_)
    refine am_aload_n dL_plant_250 1 rfl ?_
    refine am_ldcS (j := 31) dL_plant_251 rfl ?_
    refine bl_S (q := sq31) (rest := []) (s := 7) (k1 := (k0 + 9 * r) + 8) (u1 := (u0 + 18000 * r) + 16000) dL_plant_253 kML_47 hb rfl ht (Nat.le_of_ble_eq_true rfl) (by omega) (Nat.le_of_ble_eq_true rfl) (by omega) (by omega) (by omega) (fun h1 b1 t1 f1 => ?_)
    refine am_bipush (v := 97) dL_plant_256 (by decide) ?_
    refine am_aload_n dL_plant_258 2 rfl ?_
    refine am_iload_n dL_plant_259 0 rfl ?_
    refine am_callS (As := [.ref (gB G), .int (nI i)]) (rest := [.int 97, .ref (gz G + (B + 19))]) dL_plant_260 kML_102 rfl rfl (Nat.le_of_ble_eq_true rfl) (d2 := 2) (by omega) (k2 := 0) (Nat.zero_le _) (u2 := 0) (Nat.zero_le _) (Nat.le_of_ble_eq_true rfl) (ctL_yarn hL (by omega)) (fun r1 h1 q3 => ?_)
    obtain ⟨rfl, rfl⟩ := q3
    refine am_iadd dL_plant_263 ?_
    rw [show (97 : Int32) + nI (dw G (30 + 4 * i) (1 + dw G 2 2)) = nI (97 + dw G (30 + 4 * i) (1 + dw G 2 2)) from nI_add 97 _]
    have hyi := dw_lt G (30 + 4 * i) (n := 1 + dw G 2 2) (by omega)
    refine am_i2c (v := nI (97 + dw G (30 + 4 * i) (1 + dw G 2 2))) dL_plant_264 (ic_nI (by omega)) ?_
    refine bl_C (c := 97 + dw G (30 + 4 * i) (1 + dw G 2 2)) (rest := []) (k1 := (k0 + 9 * r) + 7) (u1 := (u0 + 18000 * r) + 14000) dL_plant_265 kML_73 b1 (by omega) t1 (by omega) (Nat.le_of_ble_eq_true rfl) (by omega) (by omega) (by omega) (fun h2 b2 t2 f2 => ?_)
    have g2 := bf_T f1 f2
    refine am_ldcS (j := 22) dL_plant_268 rfl ?_
    refine bl_S (q := sq22) (rest := []) (s := 1) (k1 := (k0 + 9 * r) + 6) (u1 := (u0 + 18000 * r) + 12000) dL_plant_270 kML_47 b2 rfl t2 (Nat.le_of_ble_eq_true rfl) (by omega) (Nat.le_of_ble_eq_true rfl) (by omega) (by omega) (by omega) (fun h3 b3 t3 f3 => ?_)
    have g3 := bf_T g2 f3
    refine am_kin dL_plant_273 (lw_mg 1103 (by decide +kernel) (by decide +kernel)) ?_
    refine am_aload_n dL_plant_276 2 rfl ?_
    refine am_iload_n dL_plant_277 0 rfl ?_
    refine am_callS (As := [.ref (gB G), .int (nI i)]) (rest := [.ref (gK G), .ref (gz G + (B + 19))]) dL_plant_278 kML_109 rfl rfl (Nat.le_of_ble_eq_true rfl) (d2 := 2) (by omega) (k2 := 0) (Nat.zero_le _) (u2 := 0) (Nat.zero_le _) (Nat.le_of_ble_eq_true rfl) (ctL_kind hL (by omega)) (fun r1 h1 q3 => ?_)
    obtain ⟨rfl, rfl⟩ := q3
    have hk3 : dw G (31 + 4 * i) 4 % 3 < 3 := Nat.mod_lt _ (by decide)
    refine am_kinld dL_plant_281 (nI_in hk3 (by decide)) ?_
    rw [nI_clamp (show dw G (31 + 4 * i) 4 % 3 < 2 ^ 31 by omega)]
    obtain ⟨qk, hk1, hk2, hk4⟩ := kd_tab hk3
    refine bl_S (q := qk) (rest := []) (s := 6) (k1 := (k0 + 9 * r) + 5) (u1 := (u0 + 18000 * r) + 10000) dL_plant_282 kML_47 b3 hk1 t3 hk4 (by omega) (Nat.le_of_ble_eq_true rfl) (by omega) (by omega) (by omega) (fun h4 b4 t4 f4 => ?_)
    rw [hk2] at b4 t4
    have g4 := bf_T g3 f4
    refine am_ldcS (j := 22) dL_plant_285 rfl ?_
    refine bl_S (q := sq22) (rest := []) (s := 1) (k1 := (k0 + 9 * r) + 4) (u1 := (u0 + 18000 * r) + 8000) dL_plant_287 kML_47 b4 rfl t4 (Nat.le_of_ble_eq_true rfl) (by omega) (Nat.le_of_ble_eq_true rfl) (by omega) (by omega) (by omega) (fun h5 b5 t5 f5 => ?_)
    have g5 := bf_T g4 f5
    refine am_aload_n dL_plant_290 2 rfl ?_
    refine am_iload_n dL_plant_291 0 rfl ?_
    refine am_callS (As := [.ref (gB G), .int (nI i)]) (rest := [.ref (gz G + (B + 19))]) dL_plant_292 kML_112 rfl rfl (Nat.le_of_ble_eq_true rfl) (d2 := 2) (by omega) (k2 := 0) (Nat.zero_le _) (u2 := 0) (Nat.zero_le _) (Nat.le_of_ble_eq_true rfl) (ctL_knitted hL (by omega)) (fun r1 h1 q3 => ?_)
    obtain ⟨rfl, rfl⟩ := q3
    refine bl_I (z := 650 + dw G (32 + 4 * i) 60) (rest := []) (k1 := (k0 + 9 * r) + 3) (u1 := (u0 + 18000 * r) + 6000) dL_plant_295 kML_50 b5 (by have := dw_lt G (32 + 4 * i) (n := 60) (by decide); omega) t5 (by omega) (Nat.le_of_ble_eq_true rfl) (by omega) (by omega) (by omega) (fun h6 b6 t6 f6 => ?_)
    have g6 := bf_T g5 f6
    refine am_ldcS (j := 22) dL_plant_298 rfl ?_
    refine bl_S (q := sq22) (rest := []) (s := 1) (k1 := (k0 + 9 * r) + 2) (u1 := (u0 + 18000 * r) + 4000) dL_plant_300 kML_47 b6 rfl t6 (Nat.le_of_ble_eq_true rfl) (by omega) (Nat.le_of_ble_eq_true rfl) (by omega) (by omega) (by omega) (fun h7 b7 t7 f7 => ?_)
    have g7 := bf_T g6 f7
    refine am_aload_n dL_plant_303 2 rfl ?_
    refine am_iload_n dL_plant_304 0 rfl ?_
    refine am_callS (As := [.ref (gB G), .int (nI i)]) (rest := [.ref (gz G + (B + 19))]) dL_plant_305 kML_115 rfl rfl (Nat.le_of_ble_eq_true rfl) (d2 := 2) (by omega) (k2 := 0) (Nat.zero_le _) (u2 := 0) (Nat.zero_le _) (Nat.le_of_ble_eq_true rfl) (ctL_shade hL (by omega)) (fun r1 h1 q3 => ?_)
    obtain ⟨rfl, rfl⟩ := q3
    refine bl_I (z := 100 + dw G (33 + 4 * i) 12) (rest := []) (k1 := (k0 + 9 * r) + 1) (u1 := (u0 + 18000 * r) + 2000) dL_plant_308 kML_50 b7 (by have := dw_lt G (33 + 4 * i) (n := 12) (by decide); omega) t7 (by omega) (Nat.le_of_ble_eq_true rfl) (by omega) (by omega) (by omega) (fun h8 b8 t8 f8 => ?_)
    have g8 := bf_T g7 f8
    refine am_ldcS (j := 25) dL_plant_311 rfl ?_
    refine bl_S (q := sq25) (rest := []) (s := 1) (k1 := (k0 + 9 * r) + 0) (u1 := (u0 + 18000 * r) + 0) dL_plant_313 kML_47 b8 rfl t8 (Nat.le_of_ble_eq_true rfl) (by omega) (Nat.le_of_ble_eq_true rfl) (by omega) (by omega) (by omega) (fun h9 b9 t9 f9 => ?_)
    have g9 := bf_T g8 f9
    refine am_pop dL_plant_316 rfl ?_
    refine am_iinc (v := (nI (i + 1))) dL_plant_317 0 rfl (nI_1 i) (by decide) (lv' := [(2, .int (nI (i + 1))), (1, .ref (gz G + (B + 19))), (0, .ref (gB G))]) rfl ?_
    refine am_goto dL_plant_320 (by decide : ((320 : Nat) : Int) + (-78) = ((242 : Nat) : Int)) ?_
    have eT : (((((((((T ++ sq31.2.2.2) ++ [nI (97 + dw G (30 + 4 * i) (1 + dw G 2 2))]) ++ sq22.2.2.2) ++ (kdq (dw G (31 + 4 * i) 4 % 3)).2.2.2) ++ sq22.2.2.2) ++ numB (650 + dw G (32 + 4 * i) 60)) ++ sq22.2.2.2) ++ numB (100 + dw G (33 + 4 * i) 12)) ++ sq25.2.2.2) = T ++ lpB G i := by unfold lpB; simp only [List.append_assoc]
    rw [eT] at b9 t9
    refine ih (i + 1) (by omega) h9 (T ++ lpB G i) b9 (by omega) (fun h9 c1 c2 c3 j c4 => ?_)
    refine kk h9 ?_ (by rw [List.range'_succ, List.flatMap_cons, ← List.append_assoc]; omega) (bf_T g9 c3) j (by omega)
    rw [List.range'_succ, List.flatMap_cons, ← List.append_assoc]
    exact c1
