/-! The law: names are found. -/
theorem ld_wi {G : GM} {n : Nat} {w w1 : Wd} (h : LD G n w) (k : hz_wi w w1) (h0 : w1.1 0 = 0) : LD G n w1 := by
  obtain ⟨a, b, c, e, f⟩ := h
  exact ⟨ci_wi a k (L1 := 0) (by decide) h0, h0, by rw [k.2.2]; exact c, (k.1 1 (by decide)).trans e, (k.1 2 (by decide)).trans f⟩
section LAW
variable {l : Launch} {G : GM} {d : Nat} {Q : Option Value → List va_E → Prop}
theorem dL_law_113 : decode cL_law 113 = .ok (.aload_n 1, 1) := by decide +kernel
theorem dL_law_114 : decode cL_law 114 = .ok (.ldc 173, 2) := by decide +kernel
theorem dL_law_116 : decode cL_law 116 = .ok (.invokestatic 122, 3) := by decide +kernel
theorem dL_law_119 : decode cL_law 119 = .ok (.ifCond .eq 84, 3) := by decide +kernel
theorem dL_law_122 : decode cL_law 122 = .ok (.aload_n 1, 1) := by decide +kernel
theorem dL_law_123 : decode cL_law 123 = .ok (.iconst 1, 1) := by decide +kernel
theorem dL_law_124 : decode cL_law 124 = .ok (.invokevirtual 175, 3) := by decide +kernel
theorem dL_law_127 : decode cL_law 127 = .ok (.ifCond .ne 76, 3) := by decide +kernel
theorem dL_law_130 : decode cL_law 130 = .ok (.aload_n 1, 1) := by decide +kernel
theorem dL_law_131 : decode cL_law 131 = .ok (.ldc 178, 2) := by decide +kernel
theorem dL_law_133 : decode cL_law 133 = .ok (.invokestatic 122, 3) := by decide +kernel
theorem dL_law_136 : decode cL_law 136 = .ok (.ifCond .eq 67, 3) := by decide +kernel
theorem dL_law_139 : decode cL_law 139 = .ok (.aload_n 1, 1) := by decide +kernel
theorem dL_law_140 : decode cL_law 140 = .ok (.iconst 2, 1) := by decide +kernel
theorem dL_law_141 : decode cL_law 141 = .ok (.invokevirtual 175, 3) := by decide +kernel
theorem dL_law_144 : decode cL_law 144 = .ok (.iconst 1, 1) := by decide +kernel
theorem dL_law_145 : decode cL_law 145 = .ok (.if_icmp .ne 58, 3) := by decide +kernel
theorem dL_law_148 : decode cL_law 148 = .ok (.aload_n 1, 1) := by decide +kernel
theorem dL_law_149 : decode cL_law 149 = .ok (.ldc 180, 2) := by decide +kernel
theorem dL_law_151 : decode cL_law 151 = .ok (.invokestatic 122, 3) := by decide +kernel
theorem dL_law_154 : decode cL_law 154 = .ok (.ifCond .eq 49, 3) := by decide +kernel
theorem dL_law_157 : decode cL_law 157 = .ok (.aload_n 1, 1) := by decide +kernel
theorem dL_law_158 : decode cL_law 158 = .ok (.iconst 3, 1) := by decide +kernel
theorem dL_law_159 : decode cL_law 159 = .ok (.invokevirtual 175, 3) := by decide +kernel
theorem dL_law_162 : decode cL_law 162 = .ok (.bipush (-2), 2) := by decide +kernel
theorem dL_law_164 : decode cL_law 164 = .ok (.if_icmp .ne 39, 3) := by decide +kernel
theorem dL_law_167 : decode cL_law 167 = .ok (.aload_n 1, 1) := by decide +kernel
theorem dL_law_168 : decode cL_law 168 = .ok (.iconst 0, 1) := by decide +kernel
theorem dL_law_169 : decode cL_law 169 = .ok (.invokevirtual 175, 3) := by decide +kernel
theorem dL_law_172 : decode cL_law 172 = .ok (.ifCond .ne 31, 3) := by decide +kernel
theorem dL_law_175 : decode cL_law 175 = .ok (.aload_n 1, 1) := by decide +kernel
theorem dL_law_176 : decode cL_law 176 = .ok (.iconst 0, 1) := by decide +kernel
theorem dL_law_177 : decode cL_law 177 = .ok (.invokevirtual 175, 3) := by decide +kernel
theorem dL_law_180 : decode cL_law 180 = .ok (.bipush (-4), 2) := by decide +kernel
theorem dL_law_182 : decode cL_law 182 = .ok (.if_icmp .ne 21, 3) := by decide +kernel
theorem dL_law_185 : decode cL_law 185 = .ok (.aload_n 1, 1) := by decide +kernel
theorem dL_law_186 : decode cL_law 186 = .ok (.ldc 182, 2) := by decide +kernel
theorem dL_law_188 : decode cL_law 188 = .ok (.invokestatic 122, 3) := by decide +kernel
theorem dL_law_191 : decode cL_law 191 = .ok (.ifCond .eq 12, 3) := by decide +kernel
theorem dL_law_194 : decode cL_law 194 = .ok (.aload_n 1, 1) := by decide +kernel
theorem dL_law_195 : decode cL_law 195 = .ok (.iconst 2, 1) := by decide +kernel
theorem dL_law_196 : decode cL_law 196 = .ok (.invokevirtual 175, 3) := by decide +kernel
theorem dL_law_199 : decode cL_law 199 = .ok (.iconst (-1), 1) := by decide +kernel
theorem dL_law_200 : decode cL_law 200 = .ok (.if_icmp .eq 5, 3) := by decide +kernel
set_option maxRecDepth 20000 in
theorem sg_C {k0 u0 a b : Nat} {h : List va_E} {w : Wd} (hd : 23 ≤ d) (o : OB G h 0 w) (D : LD G 0 w) (kk : ∀ h1 w1, OB G h1 0 w1 → LD G 0 w1 → Tr l G mL_law d k0 u0 205 [(4, .ref a), (3, .ref b), (2, .int (nI (dw G 0 9))), (1, .ref (gz G + 0)), (0, .ref (gB G))] [] h1 Q) : Tr l G mL_law d k0 u0 113 [(4, .ref a), (3, .ref b), (2, .int (nI (dw G 0 9))), (1, .ref (gz G + 0)), (0, .ref (gB G))] [] h Q := by
  refine am_aload_n dL_law_113 3 rfl ?_
  refine am_ldcS (j := 33) dL_law_114 rfl ?_
  refine am_callS (As := [.ref (gz G + 0), .ref (gS G 33)]) (rest := []) dL_law_116 kML_122 rfl rfl (Nat.le_of_ble_eq_true rfl) (d2 := 5) (by omega) (k2 := 0) (Nat.zero_le _) (u2 := 0) (Nat.zero_le _) (Nat.le_of_ble_eq_true rfl) (ctL_feed (T := sq33.2.2.2) o (st_k (q := sq33) rfl) (tc_ta (by unfold TC; decide +kernel)) (by decide) (by decide) ⟨D.2.1, fun j hj => absurd hj (Nat.not_lt_zero j)⟩) (fun r1 h1 q3 => ?_)
  obtain ⟨rfl, w1, o1, -, F1, i1⟩ := q3
  refine am_if_eq dL_law_119 (by decide : ((119 : Nat) : Int) + (84) = ((203 : Nat) : Int)) (fun zq => absurd zq (by decide)) (fun _ => ?_)
  refine am_aload_n dL_law_122 3 rfl ?_
  refine am_iconst (v := 1) dL_law_123 (by decide) ?_
  have hc := om_find (l := l) o1 1
  rw [fd_sa (G := G) (by rw [i1.2.2]; exact D.2.2.1) F1] at hc
  obtain ⟨fs, hfs⟩ := ob_cell o1
  refine mm_callV (As := [.int 1]) (rest := []) dL_law_124 kML_175 rfl hfs rfl rfl (Nat.le_of_ble_eq_true rfl) (d2 := 2) (by omega) (k2 := 0) (Nat.zero_le _) (u2 := 0) (Nat.zero_le _) (hc) (fun r1 h2 q3 => ?_)
  obtain ⟨rfl, o2, -⟩ := q3
  refine am_if_ne dL_law_127 (by decide : ((127 : Nat) : Int) + (76) = ((203 : Nat) : Int)) (fun zq => absurd zq (fun z => z rfl)) (fun _ => ?_)
  have D3 : LD G 0 (wS w1 0 0) := ld_wi D (wi_T i1 (wi_00 _)) rfl
  refine am_aload_n dL_law_130 3 rfl ?_
  refine am_ldcS (j := 34) dL_law_131 rfl ?_
  refine am_callS (As := [.ref (gz G + 0), .ref (gS G 34)]) (rest := []) dL_law_133 kML_122 rfl rfl (Nat.le_of_ble_eq_true rfl) (d2 := 5) (by omega) (k2 := 0) (Nat.zero_le _) (u2 := 0) (Nat.zero_le _) (Nat.le_of_ble_eq_true rfl) (ctL_feed (T := sq34.2.2.2) o2 (st_k (q := sq34) rfl) (tc_ta (by unfold TC; decide +kernel)) (by decide) (by decide) ⟨D3.2.1, fun j hj => absurd hj (Nat.not_lt_zero j)⟩) (fun r1 h4 q3 => ?_)
  obtain ⟨rfl, w4, o4, -, F4, i4⟩ := q3
  refine am_if_eq dL_law_136 (by decide : ((136 : Nat) : Int) + (67) = ((203 : Nat) : Int)) (fun zq => absurd zq (by decide)) (fun _ => ?_)
  refine am_aload_n dL_law_139 3 rfl ?_
  refine am_iconst (v := 2) dL_law_140 (by decide) ?_
  have hc := om_find (l := l) o4 2
  rw [fd_large (G := G) (by rw [i4.2.2]; exact D3.2.2.1) F4] at hc
  obtain ⟨fs, hfs⟩ := ob_cell o4
  refine mm_callV (As := [.int 2]) (rest := []) dL_law_141 kML_175 rfl hfs rfl rfl (Nat.le_of_ble_eq_true rfl) (d2 := 2) (by omega) (k2 := 0) (Nat.zero_le _) (u2 := 0) (Nat.zero_le _) (hc) (fun r1 h5 q3 => ?_)
  obtain ⟨rfl, o5, -⟩ := q3
  refine am_iconst (v := 1) dL_law_144 (by decide) ?_
  refine am_icmp_ne dL_law_145 (by decide : ((145 : Nat) : Int) + (58) = ((203 : Nat) : Int)) (fun zq => absurd zq (fun z => z rfl)) (fun _ => ?_)
  have D6 : LD G 0 (wS w4 0 0) := ld_wi D3 (wi_T i4 (wi_00 _)) rfl
  refine am_aload_n dL_law_148 3 rfl ?_
  refine am_ldcS (j := 35) dL_law_149 rfl ?_
  refine am_callS (As := [.ref (gz G + 0), .ref (gS G 35)]) (rest := []) dL_law_151 kML_122 rfl rfl (Nat.le_of_ble_eq_true rfl) (d2 := 5) (by omega) (k2 := 0) (Nat.zero_le _) (u2 := 0) (Nat.zero_le _) (Nat.le_of_ble_eq_true rfl) (ctL_feed (T := sq35.2.2.2) o5 (st_k (q := sq35) rfl) (tc_ta (by unfold TC; decide +kernel)) (by decide) (by decide) ⟨D6.2.1, fun j hj => absurd hj (Nat.not_lt_zero j)⟩) (fun r1 h7 q3 => ?_)
  obtain ⟨rfl, w7, o7, -, F7, i7⟩ := q3
  refine am_if_eq dL_law_154 (by decide : ((154 : Nat) : Int) + (49) = ((203 : Nat) : Int)) (fun zq => absurd zq (by decide)) (fun _ => ?_)
  refine am_aload_n dL_law_157 3 rfl ?_
  refine am_iconst (v := 3) dL_law_158 (by decide) ?_
  have hc := om_find (l := l) o7 3
  rw [fnd_3 w7] at hc
  obtain ⟨fs, hfs⟩ := ob_cell o7
  refine mm_callV (As := [.int 3]) (rest := []) dL_law_159 kML_175 rfl hfs rfl rfl (Nat.le_of_ble_eq_true rfl) (d2 := 2) (by omega) (k2 := 0) (Nat.zero_le _) (u2 := 0) (Nat.zero_le _) (hc) (fun r1 h8 q3 => ?_)
  obtain ⟨rfl, o8, -⟩ := q3
  refine am_bipush (v := (-2)) dL_law_162 (by decide) ?_
  refine am_icmp_ne dL_law_164 (by decide : ((164 : Nat) : Int) + (39) = ((203 : Nat) : Int)) (fun zq => absurd zq (fun z => z rfl)) (fun _ => ?_)
  refine am_aload_n dL_law_167 3 rfl ?_
  refine am_iconst (v := 0) dL_law_168 (by decide) ?_
  have hc := om_find (l := l) o8 0
  rw [fd_ya (G := G) (by rw [i7.2.2]; exact D6.2.2.1) F7] at hc
  obtain ⟨fs, hfs⟩ := ob_cell o8
  refine mm_callV (As := [.int 0]) (rest := []) dL_law_169 kML_175 rfl hfs rfl rfl (Nat.le_of_ble_eq_true rfl) (d2 := 2) (by omega) (k2 := 0) (Nat.zero_le _) (u2 := 0) (Nat.zero_le _) (hc) (fun r1 h9 q3 => ?_)
  obtain ⟨rfl, o9, -⟩ := q3
  refine am_if_ne dL_law_172 (by decide : ((172 : Nat) : Int) + (31) = ((203 : Nat) : Int)) (fun zq => absurd zq (fun z => z rfl)) (fun _ => ?_)
  have D10 : LD G 0 (wS w7 0 0) := ld_wi D6 (wi_T i7 (wi_00 _)) rfl
  refine am_aload_n dL_law_175 3 rfl ?_
  refine am_iconst (v := 0) dL_law_176 (by decide) ?_
  have hc := om_find (l := l) o9 0
  rw [show fX6_find (wS w7 0 0) 0 = (-4, wS (wS w7 0 0) 0 0) from fd_2 (fn_0 _) 0 (by decide)] at hc
  obtain ⟨fs, hfs⟩ := ob_cell o9
  refine mm_callV (As := [.int 0]) (rest := []) dL_law_177 kML_175 rfl hfs rfl rfl (Nat.le_of_ble_eq_true rfl) (d2 := 2) (by omega) (k2 := 0) (Nat.zero_le _) (u2 := 0) (Nat.zero_le _) (hc) (fun r1 h11 q3 => ?_)
  obtain ⟨rfl, o11, -⟩ := q3
  refine am_bipush (v := (-4)) dL_law_180 (by decide) ?_
  refine am_icmp_ne dL_law_182 (by decide : ((182 : Nat) : Int) + (21) = ((203 : Nat) : Int)) (fun zq => absurd zq (fun z => z rfl)) (fun _ => ?_)
  have D12 : LD G 0 (wS (wS w7 0 0) 0 0) := ld_wi D10 (wi_00 _) rfl
  refine am_aload_n dL_law_185 3 rfl ?_
  refine am_ldcS (j := 36) dL_law_186 rfl ?_
  refine am_callS (As := [.ref (gz G + 0), .ref (gS G 36)]) (rest := []) dL_law_188 kML_122 rfl rfl (Nat.le_of_ble_eq_true rfl) (d2 := 5) (by omega) (k2 := 0) (Nat.zero_le _) (u2 := 0) (Nat.zero_le _) (Nat.le_of_ble_eq_true rfl) (ctL_feed (T := sq36.2.2.2) o11 (st_k (q := sq36) rfl) (tc_ta (by unfold TC; decide +kernel)) (by decide) (by decide) ⟨D12.2.1, fun j hj => absurd hj (Nat.not_lt_zero j)⟩) (fun r1 h13 q3 => ?_)
  obtain ⟨rfl, w13, o13, -, F13, i13⟩ := q3
  refine am_if_eq dL_law_191 (by decide : ((191 : Nat) : Int) + (12) = ((203 : Nat) : Int)) (fun zq => absurd zq (by decide)) (fun _ => ?_)
  refine am_aload_n dL_law_194 3 rfl ?_
  refine am_iconst (v := 2) dL_law_195 (by decide) ?_
  have hc := om_find (l := l) o13 2
  rw [fd_zz (G := G) (by rw [i13.2.2]; exact D12.2.2.1) F13] at hc
  obtain ⟨fs, hfs⟩ := ob_cell o13
  refine mm_callV (As := [.int 2]) (rest := []) dL_law_196 kML_175 rfl hfs rfl rfl (Nat.le_of_ble_eq_true rfl) (d2 := 2) (by omega) (k2 := 0) (Nat.zero_le _) (u2 := 0) (Nat.zero_le _) (hc) (fun r1 h14 q3 => ?_)
  obtain ⟨rfl, o14, -⟩ := q3
  refine am_iconst (v := (-1)) dL_law_199 (by decide) ?_
  refine am_icmp_eq dL_law_200 (by decide : ((200 : Nat) : Int) + (5) = ((205 : Nat) : Int)) (fun _ => ?_) (fun zq => absurd rfl zq)
  have D15 : LD G 0 (wS w13 0 0) := ld_wi D12 (wi_T i13 (wi_00 _)) rfl
  exact kk _ _ o14 D15
end LAW
