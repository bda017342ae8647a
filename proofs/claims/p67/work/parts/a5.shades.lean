/-! The law: the best shade of the first pieces. -/
theorem kXL_247 : Cond.methodLink RL 247 Lib.Math.abs.name ∈ lw_g := (lw_k5 202 (by decide +kernel) (by decide +kernel))
theorem gt_2 (f : Nat → Int32) (k s t : Nat) : gTn (gTn f k s) k t = gTn f k t := upd_2 f (66 + 6 * k) (nI s) (nI t)
theorem gt_sh (f : Nat → Int32) (k s : Nat) : gTn f k s (66 + 6 * k) = nI s := if_pos rfl
theorem gt_st (f : Nat → Int32) (k s : Nat) : gTn f k s (67 + 6 * k) = f (67 + 6 * k) := if_neg (by omega)
theorem gt_id {f : Nat → Int32} {k now : Nat} (h : f (66 + 6 * k) = nI now) : gTn f k now = f := upd_id f (66 + 6 * k) h
theorem ds_255 {now t : Nat} (h1 : now ≤ 255) (h2 : t ≤ 255) : hz_ds now t ≤ 255 := by
  unfold hz_ds
  split <;> omega
theorem ds_0 (now : Nat) : hz_ds now now = 0 := by
  unfold hz_ds
  rw [if_pos (Nat.le_refl now)]
  omega
theorem ds_z {now t : Nat} (h : hz_ds now t = 0) : t = now := by
  unfold hz_ds at h
  split at h <;> omega
theorem bs_at {K : Nat → Nat} {now bb t : Nat} (B : hz_bs K now (fun t => t < 256) bb) (ht : t ≤ 255) : K t ≤ K bb ∧ (K t = K bb → hz_ds now bb ≤ hz_ds now t ∧ (hz_ds now t = hz_ds now bb → bb ≤ t)) := by
  have h := B.2 t (show t < 256 by omega)
  exact ⟨by omega, fun e => ⟨by omega, fun e2 => by omega⟩⟩
section LAW
variable {l : Launch} {G : GM} {d : Nat} {Q : Option Value → List va_E → Prop}
theorem dL_law_1094 : decode cL_law 1094 = .ok (.iload 26, 2) := by decide +kernel
theorem dL_law_1096 : decode cL_law 1096 = .ok (.sipush 256, 3) := by decide +kernel
theorem dL_law_1099 : decode cL_law 1099 = .ok (.if_icmp .ge 101, 3) := by decide +kernel
theorem dL_law_1102 : decode cL_law 1102 = .ok (.aload_n 1, 1) := by decide +kernel
theorem dL_law_1103 : decode cL_law 1103 = .ok (.iload 21, 2) := by decide +kernel
theorem dL_law_1105 : decode cL_law 1105 = .ok (.iload 26, 2) := by decide +kernel
theorem dL_law_1107 : decode cL_law 1107 = .ok (.invokevirtual 244, 3) := by decide +kernel
theorem dL_law_1110 : decode cL_law 1110 = .ok (.ifCond .ge 5, 3) := by decide +kernel
theorem dL_law_1115 : decode cL_law 1115 = .ok (.aload_n 1, 1) := by decide +kernel
theorem dL_law_1116 : decode cL_law 1116 = .ok (.invokevirtual 153, 3) := by decide +kernel
theorem dL_law_1119 : decode cL_law 1119 = .ok (.istore 27, 2) := by decide +kernel
theorem dL_law_1121 : decode cL_law 1121 = .ok (.iload 27, 2) := by decide +kernel
theorem dL_law_1123 : decode cL_law 1123 = .ok (.iload 25, 2) := by decide +kernel
theorem dL_law_1125 : decode cL_law 1125 = .ok (.if_icmp .gt 55, 3) := by decide +kernel
theorem dL_law_1128 : decode cL_law 1128 = .ok (.iload 27, 2) := by decide +kernel
theorem dL_law_1130 : decode cL_law 1130 = .ok (.iload 25, 2) := by decide +kernel
theorem dL_law_1132 : decode cL_law 1132 = .ok (.if_icmp .ne 50, 3) := by decide +kernel
theorem dL_law_1135 : decode cL_law 1135 = .ok (.iload 26, 2) := by decide +kernel
theorem dL_law_1137 : decode cL_law 1137 = .ok (.iload 22, 2) := by decide +kernel
theorem dL_law_1139 : decode cL_law 1139 = .ok (.isub, 1) := by decide +kernel
theorem dL_law_1140 : decode cL_law 1140 = .ok (.invokestatic 247, 3) := by decide +kernel
theorem dL_law_1143 : decode cL_law 1143 = .ok (.iload 23, 2) := by decide +kernel
theorem dL_law_1145 : decode cL_law 1145 = .ok (.iload 22, 2) := by decide +kernel
theorem dL_law_1147 : decode cL_law 1147 = .ok (.isub, 1) := by decide +kernel
theorem dL_law_1148 : decode cL_law 1148 = .ok (.invokestatic 247, 3) := by decide +kernel
theorem dL_law_1151 : decode cL_law 1151 = .ok (.if_icmp .lt 29, 3) := by decide +kernel
theorem dL_law_1154 : decode cL_law 1154 = .ok (.iload 26, 2) := by decide +kernel
theorem dL_law_1156 : decode cL_law 1156 = .ok (.iload 22, 2) := by decide +kernel
theorem dL_law_1158 : decode cL_law 1158 = .ok (.isub, 1) := by decide +kernel
theorem dL_law_1159 : decode cL_law 1159 = .ok (.invokestatic 247, 3) := by decide +kernel
theorem dL_law_1162 : decode cL_law 1162 = .ok (.iload 23, 2) := by decide +kernel
theorem dL_law_1164 : decode cL_law 1164 = .ok (.iload 22, 2) := by decide +kernel
theorem dL_law_1166 : decode cL_law 1166 = .ok (.isub, 1) := by decide +kernel
theorem dL_law_1167 : decode cL_law 1167 = .ok (.invokestatic 247, 3) := by decide +kernel
theorem dL_law_1170 : decode cL_law 1170 = .ok (.if_icmp .ne 12, 3) := by decide +kernel
theorem dL_law_1173 : decode cL_law 1173 = .ok (.iload 26, 2) := by decide +kernel
theorem dL_law_1175 : decode cL_law 1175 = .ok (.iload 23, 2) := by decide +kernel
theorem dL_law_1177 : decode cL_law 1177 = .ok (.if_icmp .ge 5, 3) := by decide +kernel
theorem dL_law_1182 : decode cL_law 1182 = .ok (.iload 26, 2) := by decide +kernel
theorem dL_law_1184 : decode cL_law 1184 = .ok (.iconst 1, 1) := by decide +kernel
theorem dL_law_1185 : decode cL_law 1185 = .ok (.aload_n 0, 1) := by decide +kernel
theorem dL_law_1186 : decode cL_law 1186 = .ok (.bipush 24, 2) := by decide +kernel
theorem dL_law_1188 : decode cL_law 1188 = .ok (.bipush 9, 2) := by decide +kernel
theorem dL_law_1190 : decode cL_law 1190 = .ok (.invokestatic 34, 3) := by decide +kernel
theorem dL_law_1193 : decode cL_law 1193 = .ok (.iadd, 1) := by decide +kernel
theorem dL_law_1194 : decode cL_law 1194 = .ok (.iadd, 1) := by decide +kernel
theorem dL_law_1195 : decode cL_law 1195 = .ok (.istore 26, 2) := by decide +kernel
theorem dL_law_1197 : decode cL_law 1197 = .ok (.goto (-103), 3) := by decide +kernel
set_option maxRecDepth 20000 in
theorem sg_Kl (hL : gL G ≤ 260) {k0 u0 a b k bb now n : Nat} {K : Nat → Nat} {f : Nat → Int32} (hd : 23 ≤ d) (hn : n ≤ 100000) (hk : k < dw G 0 9) (h1 : f (67 + 6 * k) = 1) (hw : now ≤ 255) (B : hz_bs K now (fun t => t < 256) bb) (F : ∀ t, t ≤ 255 → KF (gTn f k t) (dw G 0 9) (K t) ∧ K t ≤ 7) : ∀ (r t : Nat), 256 ≤ t + r → t ≤ 264 → ∀ (h : List va_E) (w : Wd) (s : Nat), OB G h 0 w → s ≤ 255 → CD G (n + t) w (gTn f k s) → (∀ h1 w1 s1, OB G h1 0 w1 → s1 ≤ 255 → CD G (n + 264) w1 (gTn f k s1) → Tr l G mL_law d k0 u0 1200 [(22, .int (nI now)), (21, .int (nI k)), (4, .ref a), (3, .ref b), (2, .int (nI (dw G 0 9))), (1, .ref (gz G + 0)), (0, .ref (gB G))] [] h1 Q) → Tr l G mL_law d k0 u0 1094 [(26, .int (nI t)), (25, .int (nI (K bb))), (23, .int (nI bb)), (22, .int (nI now)), (21, .int (nI k)), (4, .ref a), (3, .ref b), (2, .int (nI (dw G 0 9))), (1, .ref (gz G + 0)), (0, .ref (gB G))] [] h Q := by
  intro r
  induction r with
  | zero =>
    intro t g1 g2 h w s o hs C kk
    refine am_iload dL_law_1094 0 rfl ?_
    refine am_sipush (v := 256) dL_law_1096 (by decide) ?_
    refine am_icmp_ge dL_law_1099 (by decide : ((1099 : Nat) : Int) + (101) = ((1200 : Nat) : Int)) (fun _ => ?_) (fun zq => absurd (nI_le (a := 256) (b := t) (by omega) (by omega)) zq)
    refine am_lv [3, 4, 5, 6, 7, 8, 9] rfl ?_
    exact kk h w s o hs (ci_up C (by omega))
  | succ r ih =>
    intro t g1 g2 h w s o hs C kk
    by_cases g3 : t < 256
    · refine am_iload dL_law_1094 0 rfl ?_
      refine am_sipush (v := 256) dL_law_1096 (by decide) ?_
      refine am_icmp_ge dL_law_1099 (by decide : ((1099 : Nat) : Int) + (101) = ((1200 : Nat) : Int)) (fun zq => absurd zq (nI_ge (a := t) (b := 256) (by omega) (by omega))) (fun _ => ?_)
      have ht : t ≤ 255 := by omega
      have nd := dw_lt G 24 (n := 9) (by decide)
      obtain ⟨w1, e1, C1⟩ := o_de C hk (show ¬ gTn f k s (67 + 6 * k) = 3 by rw [gt_st, h1]; decide) ht
      rw [gt_sh] at e1
      rw [gt_2] at C1
      refine am_aload_n dL_law_1102 8 rfl ?_
      refine am_iload dL_law_1103 4 rfl ?_
      refine am_iload dL_law_1105 0 rfl ?_
      have hc := om_dye (l := l) o (nI k) (nI t)
      rw [e1] at hc
      obtain ⟨fs, hfs⟩ := ob_cell o
      refine mm_callV (As := [.int (nI k), .int (nI t)]) (rest := []) dL_law_1107 kML_244 rfl hfs rfl rfl (Nat.le_of_ble_eq_true rfl) (d2 := 6) (by omega) (k2 := 0) (Nat.zero_le _) (u2 := 0) (Nat.zero_le _) (hc) (fun r1 h1 q3 => ?_)
      obtain ⟨rfl, o1, g1⟩ := q3
      refine am_if_ge dL_law_1110 (by decide : ((1110 : Nat) : Int) + (5) = ((1115 : Nat) : Int)) (fun _ => ?_) (fun zq => absurd (nI_pos' (by omega)) zq)
      obtain ⟨w2, e2, -, C2, -⟩ := o_pc C1 (by omega) (F t ht).1
      refine am_aload_n dL_law_1115 8 rfl ?_
      have hc := om_pairCount (l := l) o1
      rw [e2] at hc
      obtain ⟨fs, hfs⟩ := ob_cell o1
      refine mm_callV (As := []) (rest := []) dL_law_1116 kML_153 rfl hfs rfl rfl (Nat.le_of_ble_eq_true rfl) (d2 := 21) (by omega) (k2 := 0) (Nat.zero_le _) (u2 := 0) (Nat.zero_le _) (hc) (fun r1 h2 q3 => ?_)
      obtain ⟨rfl, o2, g2⟩ := q3
      have k7 := (F t ht).2
      have hb : bb < 256 := B.1
      have b7 := (F bb (by omega)).2
      have bs := bs_at B ht
      have d1 := ds_255 hw ht
      have d2 := ds_255 (t := bb) hw (by omega)
      refine am_istore dL_law_1119 (by decide) (lv' := [(27, .int (nI (K t))), (26, .int (nI t)), (25, .int (nI (K bb))), (23, .int (nI bb)), (22, .int (nI now)), (21, .int (nI k)), (4, .ref a), (3, .ref b), (2, .int (nI (dw G 0 9))), (1, .ref (gz G + 0)), (0, .ref (gB G))]) rfl ?_
      have fin : Tr l G mL_law d k0 u0 1182 [(27, .int (nI (K t))), (26, .int (nI t)), (25, .int (nI (K bb))), (23, .int (nI bb)), (22, .int (nI now)), (21, .int (nI k)), (4, .ref a), (3, .ref b), (2, .int (nI (dw G 0 9))), (1, .ref (gz G + 0)), (0, .ref (gB G))] [] h2 Q := by
        refine am_iload dL_law_1182 1 rfl ?_
        refine am_iconst (v := 1) dL_law_1184 (by decide) ?_
        refine am_aload_n dL_law_1185 10 rfl ?_
        refine am_bipush (v := 24) dL_law_1186 (by decide) ?_
        refine am_bipush (v := 9) dL_law_1188 (by decide) ?_
        refine am_callS (As := [.ref (gB G), .int (nI 24), .int (nI 9)]) (rest := [.int 1, .int (nI t)]) dL_law_1190 kML_34 rfl rfl (Nat.le_of_ble_eq_true rfl) (d2 := 0) (by omega) (k2 := 0) (Nat.zero_le _) (u2 := 0) (Nat.zero_le _) (Nat.le_of_ble_eq_true rfl) (ctL_draw (k := 24) (n := 9) hL (by omega) (by decide) (by decide)) (fun r1 h1 q3 => ?_)
        obtain ⟨rfl, rfl⟩ := q3
        refine am_iadd dL_law_1193 ?_
        rw [show (1 : Int32) + nI (dw G 24 9) = nI (1 + dw G 24 9) from nI_add 1 _]
        refine am_iadd dL_law_1194 ?_
        rw [show nI t + nI (1 + dw G 24 9) = nI (t + (1 + dw G 24 9)) from nI_add t _]
        refine am_istore dL_law_1195 (by decide) (lv' := [(26, .int (nI (t + (1 + dw G 24 9)))), (27, .int (nI (K t))), (25, .int (nI (K bb))), (23, .int (nI bb)), (22, .int (nI now)), (21, .int (nI k)), (4, .ref a), (3, .ref b), (2, .int (nI (dw G 0 9))), (1, .ref (gz G + 0)), (0, .ref (gB G))]) rfl ?_
        refine am_goto dL_law_1197 (by decide : ((1197 : Nat) : Int) + (-103) = ((1094 : Nat) : Int)) ?_
        refine am_lv [0, 2, 3, 4, 5, 6, 7, 8, 9, 10] rfl ?_
        exact ih (t + (1 + dw G 24 9)) (by omega) (by omega) _ w2 t o2 ht (ci_up C2 (by omega)) kk
      refine am_iload dL_law_1121 0 rfl ?_
      refine am_iload dL_law_1123 2 rfl ?_
      refine am_icmp_gt dL_law_1125 (by decide : ((1125 : Nat) : Int) + (55) = ((1180 : Nat) : Int)) (fun zq => absurd zq (nI_nlt bs.1 (by omega))) (fun _ => ?_)
      refine am_iload dL_law_1128 0 rfl ?_
      refine am_iload dL_law_1130 2 rfl ?_
      by_cases ce : K t = K bb
      · have bt := bs.2 ce
        refine am_icmp_ne dL_law_1132 (by decide : ((1132 : Nat) : Int) + (50) = ((1182 : Nat) : Int)) (fun zq => absurd zq (fun z => z (by rw [ce]))) (fun _ => ?_)
        refine am_iload dL_law_1135 1 rfl ?_
        refine am_iload dL_law_1137 4 rfl ?_
        refine am_isub dL_law_1139 ?_
        refine am_mabs dL_law_1140 kXL_247 (Nat.le_of_ble_eq_true rfl) (by omega) ?_
        rw [hz_dsI hw (show t ≤ 255 by omega)]
        refine am_iload dL_law_1143 3 rfl ?_
        refine am_iload dL_law_1145 4 rfl ?_
        refine am_isub dL_law_1147 ?_
        refine am_mabs dL_law_1148 kXL_247 (Nat.le_of_ble_eq_true rfl) (by omega) ?_
        rw [hz_dsI hw (show bb ≤ 255 by omega)]
        refine am_icmp_lt dL_law_1151 (by decide : ((1151 : Nat) : Int) + (29) = ((1180 : Nat) : Int)) (fun zq => absurd zq (nI_nlt bt.1 (by omega))) (fun _ => ?_)
        refine am_iload dL_law_1154 1 rfl ?_
        refine am_iload dL_law_1156 4 rfl ?_
        refine am_isub dL_law_1158 ?_
        refine am_mabs dL_law_1159 kXL_247 (Nat.le_of_ble_eq_true rfl) (by omega) ?_
        rw [hz_dsI hw (show t ≤ 255 by omega)]
        refine am_iload dL_law_1162 3 rfl ?_
        refine am_iload dL_law_1164 4 rfl ?_
        refine am_isub dL_law_1166 ?_
        refine am_mabs dL_law_1167 kXL_247 (Nat.le_of_ble_eq_true rfl) (by omega) ?_
        rw [hz_dsI hw (show bb ≤ 255 by omega)]
        by_cases cd : hz_ds now t = hz_ds now bb
        · refine am_icmp_ne dL_law_1170 (by decide : ((1170 : Nat) : Int) + (12) = ((1182 : Nat) : Int)) (fun zq => absurd zq (fun z => z (by rw [cd]))) (fun _ => ?_)
          refine am_iload dL_law_1173 1 rfl ?_
          refine am_iload dL_law_1175 3 rfl ?_
          refine am_icmp_ge dL_law_1177 (by decide : ((1177 : Nat) : Int) + (5) = ((1182 : Nat) : Int)) (fun _ => ?_) (fun zq => absurd (nI_le (bt.2 cd) (by omega)) zq)
          exact fin
        · refine am_icmp_ne dL_law_1170 (by decide : ((1170 : Nat) : Int) + (12) = ((1182 : Nat) : Int)) (fun _ => ?_) (fun zq => absurd zq (fun z => cd ((nI_eq (by omega) (by omega)).mp z)))
          exact fin
      · refine am_icmp_ne dL_law_1132 (by decide : ((1132 : Nat) : Int) + (50) = ((1182 : Nat) : Int)) (fun _ => ?_) (fun zq => absurd zq (fun z => ce ((nI_eq (by omega) (by omega)).mp z)))
        exact fin
    · refine am_iload dL_law_1094 0 rfl ?_
      refine am_sipush (v := 256) dL_law_1096 (by decide) ?_
      refine am_icmp_ge dL_law_1099 (by decide : ((1099 : Nat) : Int) + (101) = ((1200 : Nat) : Int)) (fun _ => ?_) (fun zq => absurd (nI_le (a := 256) (b := t) (by omega) (by omega)) zq)
      refine am_lv [3, 4, 5, 6, 7, 8, 9] rfl ?_
      exact kk h w s o hs (ci_up C (by omega))
theorem dL_law_991 : decode cL_law 991 = .ok (.aload_n 1, 1) := by decide +kernel
theorem dL_law_992 : decode cL_law 992 = .ok (.iload 21, 2) := by decide +kernel
theorem dL_law_994 : decode cL_law 994 = .ok (.invokevirtual 236, 3) := by decide +kernel
theorem dL_law_997 : decode cL_law 997 = .ok (.istore 22, 2) := by decide +kernel
theorem dL_law_999 : decode cL_law 999 = .ok (.aload_n 1, 1) := by decide +kernel
theorem dL_law_1000 : decode cL_law 1000 = .ok (.iload 21, 2) := by decide +kernel
theorem dL_law_1002 : decode cL_law 1002 = .ok (.invokevirtual 238, 3) := by decide +kernel
theorem dL_law_1005 : decode cL_law 1005 = .ok (.istore 23, 2) := by decide +kernel
theorem dL_law_1007 : decode cL_law 1007 = .ok (.aload_n 1, 1) := by decide +kernel
theorem dL_law_1008 : decode cL_law 1008 = .ok (.iload 21, 2) := by decide +kernel
theorem dL_law_1010 : decode cL_law 1010 = .ok (.invokevirtual 241, 3) := by decide +kernel
theorem dL_law_1013 : decode cL_law 1013 = .ok (.iconst 1, 1) := by decide +kernel
theorem dL_law_1014 : decode cL_law 1014 = .ok (.if_icmp .eq 12, 3) := by decide +kernel
theorem dL_law_1017 : decode cL_law 1017 = .ok (.iload 23, 2) := by decide +kernel
theorem dL_law_1019 : decode cL_law 1019 = .ok (.bipush (-6), 2) := by decide +kernel
theorem dL_law_1021 : decode cL_law 1021 = .ok (.if_icmp .eq 203, 3) := by decide +kernel
theorem dL_law_1026 : decode cL_law 1026 = .ok (.aload_n 1, 1) := by decide +kernel
theorem dL_law_1027 : decode cL_law 1027 = .ok (.invokevirtual 153, 3) := by decide +kernel
theorem dL_law_1030 : decode cL_law 1030 = .ok (.istore 24, 2) := by decide +kernel
theorem dL_law_1032 : decode cL_law 1032 = .ok (.iload 23, 2) := by decide +kernel
theorem dL_law_1034 : decode cL_law 1034 = .ok (.ifCond .lt 49, 3) := by decide +kernel
theorem dL_law_1037 : decode cL_law 1037 = .ok (.iload 23, 2) := by decide +kernel
theorem dL_law_1039 : decode cL_law 1039 = .ok (.sipush 255, 3) := by decide +kernel
theorem dL_law_1042 : decode cL_law 1042 = .ok (.if_icmp .gt 41, 3) := by decide +kernel
theorem dL_law_1045 : decode cL_law 1045 = .ok (.aload_n 1, 1) := by decide +kernel
theorem dL_law_1046 : decode cL_law 1046 = .ok (.iload 21, 2) := by decide +kernel
theorem dL_law_1048 : decode cL_law 1048 = .ok (.iload 23, 2) := by decide +kernel
theorem dL_law_1050 : decode cL_law 1050 = .ok (.invokevirtual 244, 3) := by decide +kernel
theorem dL_law_1053 : decode cL_law 1053 = .ok (.iload 22, 2) := by decide +kernel
theorem dL_law_1055 : decode cL_law 1055 = .ok (.if_icmp .ne 28, 3) := by decide +kernel
theorem dL_law_1058 : decode cL_law 1058 = .ok (.aload_n 1, 1) := by decide +kernel
theorem dL_law_1059 : decode cL_law 1059 = .ok (.invokevirtual 153, 3) := by decide +kernel
theorem dL_law_1062 : decode cL_law 1062 = .ok (.iload 24, 2) := by decide +kernel
theorem dL_law_1064 : decode cL_law 1064 = .ok (.if_icmp .lt 19, 3) := by decide +kernel
theorem dL_law_1067 : decode cL_law 1067 = .ok (.iload 23, 2) := by decide +kernel
theorem dL_law_1069 : decode cL_law 1069 = .ok (.iload 22, 2) := by decide +kernel
theorem dL_law_1071 : decode cL_law 1071 = .ok (.if_icmp .eq 14, 3) := by decide +kernel
theorem dL_law_1074 : decode cL_law 1074 = .ok (.aload_n 1, 1) := by decide +kernel
theorem dL_law_1075 : decode cL_law 1075 = .ok (.invokevirtual 153, 3) := by decide +kernel
theorem dL_law_1078 : decode cL_law 1078 = .ok (.iload 24, 2) := by decide +kernel
theorem dL_law_1080 : decode cL_law 1080 = .ok (.if_icmp .ne 5, 3) := by decide +kernel
theorem dL_law_1085 : decode cL_law 1085 = .ok (.aload_n 1, 1) := by decide +kernel
theorem dL_law_1086 : decode cL_law 1086 = .ok (.invokevirtual 153, 3) := by decide +kernel
theorem dL_law_1089 : decode cL_law 1089 = .ok (.istore 25, 2) := by decide +kernel
theorem dL_law_1091 : decode cL_law 1091 = .ok (.iconst 0, 1) := by decide +kernel
theorem dL_law_1092 : decode cL_law 1092 = .ok (.istore 26, 2) := by decide +kernel
theorem dL_law_1200 : decode cL_law 1200 = .ok (.aload_n 1, 1) := by decide +kernel
theorem dL_law_1201 : decode cL_law 1201 = .ok (.iload 21, 2) := by decide +kernel
theorem dL_law_1203 : decode cL_law 1203 = .ok (.iload 22, 2) := by decide +kernel
theorem dL_law_1205 : decode cL_law 1205 = .ok (.invokevirtual 244, 3) := by decide +kernel
theorem dL_law_1208 : decode cL_law 1208 = .ok (.ifCond .lt 14, 3) := by decide +kernel
theorem dL_law_1211 : decode cL_law 1211 = .ok (.aload_n 1, 1) := by decide +kernel
theorem dL_law_1212 : decode cL_law 1212 = .ok (.iload 21, 2) := by decide +kernel
theorem dL_law_1214 : decode cL_law 1214 = .ok (.invokevirtual 236, 3) := by decide +kernel
theorem dL_law_1217 : decode cL_law 1217 = .ok (.iload 22, 2) := by decide +kernel
theorem dL_law_1219 : decode cL_law 1219 = .ok (.if_icmp .eq 5, 3) := by decide +kernel
theorem dL_law_1224 : decode cL_law 1224 = .ok (.iinc 21 1, 3) := by decide +kernel
theorem dL_law_1227 : decode cL_law 1227 = .ok (.goto (-248), 3) := by decide +kernel
set_option maxRecDepth 20000 in
theorem sg_Kp (hL : gL G ≤ 260) {k0 u0 a b k n : Nat} {h : List va_E} {w : Wd} (hd : 23 ≤ d) (hn : n ≤ 800) (hk : k < dw G 0 9) (o : OB G h 0 w) (C : CD G n w (rwB G)) (kk : ∀ h1 w1, OB G h1 0 w1 → CD G (n + 270) w1 (rwB G) → Tr l G mL_law d k0 u0 979 [(21, .int (nI (k + 1))), (4, .ref a), (3, .ref b), (2, .int (nI (dw G 0 9))), (1, .ref (gz G + 0)), (0, .ref (gB G))] [] h1 Q) : Tr l G mL_law d k0 u0 991 [(21, .int (nI k)), (4, .ref a), (3, .ref b), (2, .int (nI (dw G 0 9))), (1, .ref (gz G + 0)), (0, .ref (gB G))] [] h Q := by
  have n9 := dw_lt G 0 (n := 9) (by decide)
  obtain ⟨s1, now, hw, s2⟩ := pr_sh C.1 hk
  have hf := s1.trans s2
  refine am_aload_n dL_law_991 4 rfl ?_
  refine am_iload dL_law_992 0 rfl ?_
  have q1 := om_shade (l := l) o (nI k)
  rw [o_sd C hk, hf] at q1
  obtain ⟨fs, hfs⟩ := ob_cell o
  refine mm_callV (As := [.int (nI k)]) (rest := []) dL_law_994 kML_236 rfl hfs rfl rfl (Nat.le_of_ble_eq_true rfl) (d2 := 1) (by omega) (k2 := 0) (Nat.zero_le _) (u2 := 0) (Nat.zero_le _) (q1) (fun r1 h1 q3 => ?_)
  obtain ⟨rfl, e0⟩ := q3
  subst e0
  refine am_istore dL_law_997 (by decide) (lv' := [(22, .int (nI now)), (21, .int (nI k)), (4, .ref a), (3, .ref b), (2, .int (nI (dw G 0 9))), (1, .ref (gz G + 0)), (0, .ref (gB G))]) rfl ?_
  have fin : ∀ h w v, OB G h 0 w → CD G (n + 270) w (rwB G) → Tr l G mL_law d k0 u0 1224 [(23, .int v), (22, .int (nI now)), (21, .int (nI k)), (4, .ref a), (3, .ref b), (2, .int (nI (dw G 0 9))), (1, .ref (gz G + 0)), (0, .ref (gB G))] [] h Q := by
    intro h w v o C
    refine am_iinc (v := (nI (k + 1))) dL_law_1224 2 rfl (nI_1 k) (by decide) (lv' := [(21, .int (nI (k + 1))), (23, .int v), (22, .int (nI now)), (4, .ref a), (3, .ref b), (2, .int (nI (dw G 0 9))), (1, .ref (gz G + 0)), (0, .ref (gB G))]) rfl ?_
    refine am_goto dL_law_1227 (by decide : ((1227 : Nat) : Int) + (-248) = ((979 : Nat) : Int)) ?_
    refine am_lv [0, 3, 4, 5, 6, 7] rfl ?_
    exact kk _ w o C
  by_cases c1 : rwB G (67 + 6 * k) = 1
  · obtain ⟨bb, w1, K, e1, B, F, C1⟩ := o_by C (by omega) hk c1 hw hf
    have hb : bb < 256 := B.1
    have Fn : KF (rwB G) (dw G 0 9) (K now) := by
      have := (F now hw).1
      rw [gt_id hf] at this
      exact this
    have k7 := (F now hw).2
    have b7 := (F bb (by omega)).2
    have bs := bs_at B hw
    refine am_aload_n dL_law_999 5 rfl ?_
    refine am_iload dL_law_1000 1 rfl ?_
    have hc := om_bestDye (l := l) o (nI k)
    rw [e1] at hc
    obtain ⟨fs, hfs⟩ := ob_cell o
    refine mm_callV (As := [.int (nI k)]) (rest := []) dL_law_1002 kML_238 rfl hfs rfl rfl (Nat.le_of_ble_eq_true rfl) (d2 := 19) (by omega) (k2 := 0) (Nat.zero_le _) (u2 := 0) (Nat.zero_le _) (hc) (fun r1 h2 q3 => ?_)
    obtain ⟨rfl, o2, g2⟩ := q3
    refine am_istore dL_law_1005 (by decide) (lv' := [(23, .int (nI bb)), (22, .int (nI now)), (21, .int (nI k)), (4, .ref a), (3, .ref b), (2, .int (nI (dw G 0 9))), (1, .ref (gz G + 0)), (0, .ref (gB G))]) rfl ?_
    refine am_aload_n dL_law_1007 6 rfl ?_
    refine am_iload dL_law_1008 2 rfl ?_
    have q1 := om_state (l := l) o2 (nI k)
    rw [o_sa C1 hk, c1] at q1
    obtain ⟨fs, hfs⟩ := ob_cell o2
    refine mm_callV (As := [.int (nI k)]) (rest := []) dL_law_1010 kML_241 rfl hfs rfl rfl (Nat.le_of_ble_eq_true rfl) (d2 := 1) (by omega) (k2 := 0) (Nat.zero_le _) (u2 := 0) (Nat.zero_le _) (q1) (fun r1 h3 q3 => ?_)
    obtain ⟨rfl, e0⟩ := q3
    subst e0
    refine am_iconst (v := 1) dL_law_1013 (by decide) ?_
    refine am_icmp_eq dL_law_1014 (by decide : ((1014 : Nat) : Int) + (12) = ((1026 : Nat) : Int)) (fun _ => ?_) (fun zq => absurd rfl zq)
    obtain ⟨w2, e2, -, C2, -⟩ := o_pc C1 (by omega) Fn
    refine am_aload_n dL_law_1026 6 rfl ?_
    have hc := om_pairCount (l := l) o2
    rw [e2] at hc
    obtain ⟨fs, hfs⟩ := ob_cell o2
    refine mm_callV (As := []) (rest := []) dL_law_1027 kML_153 rfl hfs rfl rfl (Nat.le_of_ble_eq_true rfl) (d2 := 21) (by omega) (k2 := 0) (Nat.zero_le _) (u2 := 0) (Nat.zero_le _) (hc) (fun r1 h4 q3 => ?_)
    obtain ⟨rfl, o4, g4⟩ := q3
    refine am_istore dL_law_1030 (by decide) (lv' := [(24, .int (nI (K now))), (23, .int (nI bb)), (22, .int (nI now)), (21, .int (nI k)), (4, .ref a), (3, .ref b), (2, .int (nI (dw G 0 9))), (1, .ref (gz G + 0)), (0, .ref (gB G))]) rfl ?_
    refine am_iload dL_law_1032 1 rfl ?_
    refine am_if_lt dL_law_1034 (by decide : ((1034 : Nat) : Int) + (49) = ((1083 : Nat) : Int)) (fun zq => absurd zq (nI_pos (by omega))) (fun _ => ?_)
    refine am_iload dL_law_1037 1 rfl ?_
    refine am_sipush (v := 255) dL_law_1039 (by decide) ?_
    refine am_icmp_gt dL_law_1042 (by decide : ((1042 : Nat) : Int) + (41) = ((1083 : Nat) : Int)) (fun zq => absurd zq (nI_nlt (a := 255) (b := bb) (by omega) (by omega))) (fun _ => ?_)
    obtain ⟨w3, e3, C3⟩ := o_de C2 hk (by rw [c1]; decide) (t := bb) (by omega)
    rw [hf] at e3
    refine am_aload_n dL_law_1045 7 rfl ?_
    refine am_iload dL_law_1046 3 rfl ?_
    refine am_iload dL_law_1048 1 rfl ?_
    have hc := om_dye (l := l) o4 (nI k) (nI bb)
    rw [e3] at hc
    obtain ⟨fs, hfs⟩ := ob_cell o4
    refine mm_callV (As := [.int (nI k), .int (nI bb)]) (rest := []) dL_law_1050 kML_244 rfl hfs rfl rfl (Nat.le_of_ble_eq_true rfl) (d2 := 6) (by omega) (k2 := 0) (Nat.zero_le _) (u2 := 0) (Nat.zero_le _) (hc) (fun r1 h5 q3 => ?_)
    obtain ⟨rfl, o5, g5⟩ := q3
    refine am_iload dL_law_1053 2 rfl ?_
    refine am_icmp_ne dL_law_1055 (by decide : ((1055 : Nat) : Int) + (28) = ((1083 : Nat) : Int)) (fun zq => absurd zq (fun z => z rfl)) (fun _ => ?_)
    obtain ⟨w4, e4, -, C4, -⟩ := o_pc C3 (by omega) (F bb (by omega)).1
    refine am_aload_n dL_law_1058 7 rfl ?_
    have hc := om_pairCount (l := l) o5
    rw [e4] at hc
    obtain ⟨fs, hfs⟩ := ob_cell o5
    refine mm_callV (As := []) (rest := []) dL_law_1059 kML_153 rfl hfs rfl rfl (Nat.le_of_ble_eq_true rfl) (d2 := 21) (by omega) (k2 := 0) (Nat.zero_le _) (u2 := 0) (Nat.zero_le _) (hc) (fun r1 h6 q3 => ?_)
    obtain ⟨rfl, o6, g6⟩ := q3
    refine am_iload dL_law_1062 0 rfl ?_
    refine am_icmp_lt dL_law_1064 (by decide : ((1064 : Nat) : Int) + (19) = ((1083 : Nat) : Int)) (fun zq => absurd zq (nI_nlt bs.1 (by omega))) (fun _ => ?_)
    have go : ∀ h w, OB G h 0 w → CD G (n + 4) w (gTn (rwB G) k bb) → Tr l G mL_law d k0 u0 1085 [(24, .int (nI (K now))), (23, .int (nI bb)), (22, .int (nI now)), (21, .int (nI k)), (4, .ref a), (3, .ref b), (2, .int (nI (dw G 0 9))), (1, .ref (gz G + 0)), (0, .ref (gB G))] [] h Q := by
      intro h w o C
      obtain ⟨w5, e5, -, C5, -⟩ := o_pc C (by omega) (F bb (by omega)).1
      refine am_aload_n dL_law_1085 7 rfl ?_
      have hc := om_pairCount (l := l) o
      rw [e5] at hc
      obtain ⟨fs, hfs⟩ := ob_cell o
      refine mm_callV (As := []) (rest := []) dL_law_1086 kML_153 rfl hfs rfl rfl (Nat.le_of_ble_eq_true rfl) (d2 := 21) (by omega) (k2 := 0) (Nat.zero_le _) (u2 := 0) (Nat.zero_le _) (hc) (fun r1 h7 q3 => ?_)
      obtain ⟨rfl, o7, g7⟩ := q3
      refine am_istore dL_law_1089 (by decide) (lv' := [(25, .int (nI (K bb))), (24, .int (nI (K now))), (23, .int (nI bb)), (22, .int (nI now)), (21, .int (nI k)), (4, .ref a), (3, .ref b), (2, .int (nI (dw G 0 9))), (1, .ref (gz G + 0)), (0, .ref (gB G))]) rfl ?_
      refine am_iconst (v := 0) dL_law_1091 (by decide) ?_
      refine am_istore dL_law_1092 (by decide) (lv' := [(26, .int 0), (25, .int (nI (K bb))), (24, .int (nI (K now))), (23, .int (nI bb)), (22, .int (nI now)), (21, .int (nI k)), (4, .ref a), (3, .ref b), (2, .int (nI (dw G 0 9))), (1, .ref (gz G + 0)), (0, .ref (gB G))]) rfl ?_
      refine am_lv [0, 1, 3, 4, 5, 6, 7, 8, 9, 10] rfl ?_
      refine sg_Kl (n := n + 5) hL hd (by omega) hk c1 hw B F 256 0 (by omega) (by omega) _ w5 bb o7 (by omega) (ci_up C5 (by omega)) (fun h8 w8 s8 o8 hs8 C8 => ?_)
      obtain ⟨w9, e9, C9⟩ := o_de C8 hk (show ¬ gTn (rwB G) k s8 (67 + 6 * k) = 3 by rw [gt_st, c1]; decide) hw
      rw [gt_sh] at e9
      rw [gt_2, gt_id hf] at C9
      refine am_aload_n dL_law_1200 5 rfl ?_
      refine am_iload dL_law_1201 1 rfl ?_
      refine am_iload dL_law_1203 0 rfl ?_
      have hc := om_dye (l := l) o8 (nI k) (nI now)
      rw [e9] at hc
      obtain ⟨fs, hfs⟩ := ob_cell o8
      refine mm_callV (As := [.int (nI k), .int (nI now)]) (rest := []) dL_law_1205 kML_244 rfl hfs rfl rfl (Nat.le_of_ble_eq_true rfl) (d2 := 6) (by omega) (k2 := 0) (Nat.zero_le _) (u2 := 0) (Nat.zero_le _) (hc) (fun r1 h9 q3 => ?_)
      obtain ⟨rfl, o9, g9⟩ := q3
      refine am_if_lt dL_law_1208 (by decide : ((1208 : Nat) : Int) + (14) = ((1222 : Nat) : Int)) (fun zq => absurd zq (nI_pos (by omega))) (fun _ => ?_)
      refine am_aload_n dL_law_1211 5 rfl ?_
      refine am_iload dL_law_1212 1 rfl ?_
      have q1 := om_shade (l := l) o9 (nI k)
      rw [o_sd C9 hk, hf] at q1
      obtain ⟨fs, hfs⟩ := ob_cell o9
      refine mm_callV (As := [.int (nI k)]) (rest := []) dL_law_1214 kML_236 rfl hfs rfl rfl (Nat.le_of_ble_eq_true rfl) (d2 := 1) (by omega) (k2 := 0) (Nat.zero_le _) (u2 := 0) (Nat.zero_le _) (q1) (fun r1 h10 q3 => ?_)
      obtain ⟨rfl, e0⟩ := q3
      subst e0
      refine am_iload dL_law_1217 0 rfl ?_
      refine am_icmp_eq dL_law_1219 (by decide : ((1219 : Nat) : Int) + (5) = ((1224 : Nat) : Int)) (fun _ => ?_) (fun zq => absurd rfl zq)
      refine am_iinc (v := (nI (k + 1))) dL_law_1224 1 rfl (nI_1 k) (by decide) (lv' := [(21, .int (nI (k + 1))), (22, .int (nI now)), (4, .ref a), (3, .ref b), (2, .int (nI (dw G 0 9))), (1, .ref (gz G + 0)), (0, .ref (gB G))]) rfl ?_
      refine am_goto dL_law_1227 (by decide : ((1227 : Nat) : Int) + (-248) = ((979 : Nat) : Int)) ?_
      refine am_lv [0, 2, 3, 4, 5, 6] rfl ?_
      exact kk _ w9 o9 (ci_up C9 (by omega))
    refine am_iload dL_law_1067 1 rfl ?_
    refine am_iload dL_law_1069 2 rfl ?_
    by_cases ce : bb = now
    · refine am_icmp_eq dL_law_1071 (by decide : ((1071 : Nat) : Int) + (14) = ((1085 : Nat) : Int)) (fun _ => ?_) (fun zq => absurd (by rw [ce]) zq)
      exact go _ w4 o6 (ci_up C4 (by omega))
    · have cK : ¬ K bb = K now := fun e => by
        have z := (bs.2 e.symm).1
        rw [ds_0] at z
        exact ce (ds_z (by omega))
      refine am_icmp_eq dL_law_1071 (by decide : ((1071 : Nat) : Int) + (14) = ((1085 : Nat) : Int)) (fun zq => absurd zq (fun z => ce ((nI_eq (by omega) (by omega)).mp z))) (fun _ => ?_)
      obtain ⟨w5, e5, -, C5, -⟩ := o_pc C4 (by omega) (F bb (by omega)).1
      refine am_aload_n dL_law_1074 7 rfl ?_
      have hc := om_pairCount (l := l) o6
      rw [e5] at hc
      obtain ⟨fs, hfs⟩ := ob_cell o6
      refine mm_callV (As := []) (rest := []) dL_law_1075 kML_153 rfl hfs rfl rfl (Nat.le_of_ble_eq_true rfl) (d2 := 21) (by omega) (k2 := 0) (Nat.zero_le _) (u2 := 0) (Nat.zero_le _) (hc) (fun r1 h7 q3 => ?_)
      obtain ⟨rfl, o7, g7⟩ := q3
      refine am_iload dL_law_1078 0 rfl ?_
      refine am_icmp_ne dL_law_1080 (by decide : ((1080 : Nat) : Int) + (5) = ((1085 : Nat) : Int)) (fun _ => ?_) (fun zq => absurd zq (fun z => cK ((nI_eq (by omega) (by omega)).mp z)))
      exact go _ w5 o7 (ci_up C5 (by omega))
  · have e1 := o_bx C hk c1
    refine am_aload_n dL_law_999 5 rfl ?_
    refine am_iload dL_law_1000 1 rfl ?_
    have hc := om_bestDye (l := l) o (nI k)
    rw [e1] at hc
    obtain ⟨fs, hfs⟩ := ob_cell o
    refine mm_callV (As := [.int (nI k)]) (rest := []) dL_law_1002 kML_238 rfl hfs rfl rfl (Nat.le_of_ble_eq_true rfl) (d2 := 19) (by omega) (k2 := 0) (Nat.zero_le _) (u2 := 0) (Nat.zero_le _) (hc) (fun r1 h2 q3 => ?_)
    obtain ⟨rfl, o2, g2⟩ := q3
    refine am_istore dL_law_1005 (by decide) (lv' := [(23, .int (-6)), (22, .int (nI now)), (21, .int (nI k)), (4, .ref a), (3, .ref b), (2, .int (nI (dw G 0 9))), (1, .ref (gz G + 0)), (0, .ref (gB G))]) rfl ?_
    refine am_aload_n dL_law_1007 6 rfl ?_
    refine am_iload dL_law_1008 2 rfl ?_
    have q1 := om_state (l := l) o2 (nI k)
    rw [o_sa C hk] at q1
    obtain ⟨fs, hfs⟩ := ob_cell o2
    refine mm_callV (As := [.int (nI k)]) (rest := []) dL_law_1010 kML_241 rfl hfs rfl rfl (Nat.le_of_ble_eq_true rfl) (d2 := 1) (by omega) (k2 := 0) (Nat.zero_le _) (u2 := 0) (Nat.zero_le _) (q1) (fun r1 h3 q3 => ?_)
    obtain ⟨rfl, e0⟩ := q3
    subst e0
    refine am_iconst (v := 1) dL_law_1013 (by decide) ?_
    refine am_icmp_eq dL_law_1014 (by decide : ((1014 : Nat) : Int) + (12) = ((1026 : Nat) : Int)) (fun zq => absurd zq c1) (fun _ => ?_)
    refine am_iload dL_law_1017 0 rfl ?_
    refine am_bipush (v := (-6)) dL_law_1019 (by decide) ?_
    refine am_icmp_eq dL_law_1021 (by decide : ((1021 : Nat) : Int) + (203) = ((1224 : Nat) : Int)) (fun _ => ?_) (fun zq => absurd rfl zq)
    exact fin _ w _ o2 (ci_up C (by omega))
theorem dL_law_979 : decode cL_law 979 = .ok (.iload 21, 2) := by decide +kernel
theorem dL_law_981 : decode cL_law 981 = .ok (.iload_n 2, 1) := by decide +kernel
theorem dL_law_982 : decode cL_law 982 = .ok (.if_icmp .ge 248, 3) := by decide +kernel
theorem dL_law_985 : decode cL_law 985 = .ok (.iload 21, 2) := by decide +kernel
theorem dL_law_987 : decode cL_law 987 = .ok (.iconst 2, 1) := by decide +kernel
theorem dL_law_988 : decode cL_law 988 = .ok (.if_icmp .ge 242, 3) := by decide +kernel
set_option maxRecDepth 20000 in
theorem sg_Kq (hL : gL G ≤ 260) {k0 u0 a b : Nat} (hd : 23 ≤ d) : ∀ (r k : Nat), k + r = 2 → ∀ (h : List va_E) (w : Wd), OB G h 0 w → CD G (176 + 270 * k) w (rwB G) → (∀ h1 w1, OB G h1 0 w1 → CD G 716 w1 (rwB G) → Tr l G mL_law d k0 u0 1230 [(4, .ref a), (3, .ref b), (2, .int (nI (dw G 0 9))), (1, .ref (gz G + 0)), (0, .ref (gB G))] [] h1 Q) → Tr l G mL_law d k0 u0 979 [(21, .int (nI k)), (4, .ref a), (3, .ref b), (2, .int (nI (dw G 0 9))), (1, .ref (gz G + 0)), (0, .ref (gB G))] [] h Q := by
  have n9 := dw_lt G 0 (n := 9) (by decide)
  intro r
  induction r with
  | zero =>
    intro k hk h w o C kk
    refine am_iload dL_law_979 0 rfl ?_
    refine am_iload_n dL_law_981 3 rfl ?_
    by_cases c : dw G 0 9 ≤ k
    · refine am_icmp_ge dL_law_982 (by decide : ((982 : Nat) : Int) + (248) = ((1230 : Nat) : Int)) (fun _ => ?_) (fun zq => absurd (nI_le c (by omega)) zq)
      refine am_lv [1, 2, 3, 4, 5] rfl ?_
      exact kk _ w o (ci_up C (by omega))
    · refine am_icmp_ge dL_law_982 (by decide : ((982 : Nat) : Int) + (248) = ((1230 : Nat) : Int)) (fun zq => absurd zq (nI_ge (by omega) (by omega))) (fun _ => ?_)
      refine am_iload dL_law_985 0 rfl ?_
      refine am_iconst (v := 2) dL_law_987 (by decide) ?_
      refine am_icmp_ge dL_law_988 (by decide : ((988 : Nat) : Int) + (242) = ((1230 : Nat) : Int)) (fun _ => ?_) (fun zq => absurd (nI_le (a := 2) (b := k) (by omega) (by omega)) zq)
      refine am_lv [1, 2, 3, 4, 5] rfl ?_
      exact kk _ w o (ci_up C (by omega))
  | succ r ih =>
    intro k hk h w o C kk
    refine am_iload dL_law_979 0 rfl ?_
    refine am_iload_n dL_law_981 3 rfl ?_
    by_cases c : dw G 0 9 ≤ k
    · refine am_icmp_ge dL_law_982 (by decide : ((982 : Nat) : Int) + (248) = ((1230 : Nat) : Int)) (fun _ => ?_) (fun zq => absurd (nI_le c (by omega)) zq)
      refine am_lv [1, 2, 3, 4, 5] rfl ?_
      exact kk _ w o (ci_up C (by omega))
    · refine am_icmp_ge dL_law_982 (by decide : ((982 : Nat) : Int) + (248) = ((1230 : Nat) : Int)) (fun zq => absurd zq (nI_ge (by omega) (by omega))) (fun _ => ?_)
      refine am_iload dL_law_985 0 rfl ?_
      refine am_iconst (v := 2) dL_law_987 (by decide) ?_
      refine am_icmp_ge dL_law_988 (by decide : ((988 : Nat) : Int) + (242) = ((1230 : Nat) : Int)) (fun zq => absurd zq (nI_ge (a := k) (b := 2) (by omega) (by omega))) (fun _ => ?_)
      exact sg_Kp hL hd (by omega) (by omega) o C (fun h2 w2 o2 C2 => ih (k + 1) (by omega) _ w2 o2 (ci_up C2 (by omega)) kk)
theorem dL_law_976 : decode cL_law 976 = .ok (.iconst 0, 1) := by decide +kernel
theorem dL_law_977 : decode cL_law 977 = .ok (.istore 21, 2) := by decide +kernel
set_option maxRecDepth 20000 in
theorem sg_K (hL : gL G ≤ 260) {k0 u0 a b : Nat} {h : List va_E} {w : Wd} (hd : 23 ≤ d) (o : OB G h 0 w) (C : CD G 176 w (rwB G)) (kk : ∀ h1 w1, OB G h1 0 w1 → CD G 716 w1 (rwB G) → Tr l G mL_law d k0 u0 1230 [(4, .ref a), (3, .ref b), (2, .int (nI (dw G 0 9))), (1, .ref (gz G + 0)), (0, .ref (gB G))] [] h1 Q) : Tr l G mL_law d k0 u0 976 [(4, .ref a), (3, .ref b), (2, .int (nI (dw G 0 9))), (1, .ref (gz G + 0)), (0, .ref (gB G))] [] h Q := by
  refine am_iconst (v := 0) dL_law_976 (by decide) ?_
  refine am_istore dL_law_977 (by decide) (lv' := [(21, .int 0), (4, .ref a), (3, .ref b), (2, .int (nI (dw G 0 9))), (1, .ref (gz G + 0)), (0, .ref (gB G))]) rfl ?_
  exact sg_Kq hL hd 2 0 (Nat.zero_add 2) _ w o (ci_up C (by omega)) kk
end LAW
