/-! The class writes the plant; a byte of the text. -/
def kdq (kd : Nat) : String × Nat × String × List Int32 := if kd = 0 then sq18 else if kd = 1 then sq19 else sq20
theorem kdq_at {kd : Nat} (h : kd < 3) : strTab[18 + kd]? = some (kdq kd) := by
  rcases (show kd = 0 ∨ kd = 1 ∨ kd = 2 by omega) with rfl | rfl | rfl <;> rfl
theorem kdq_len {kd : Nat} (h : kd < 3) : (kdq kd).2.2.2.length = if kd = 0 then 5 else if kd = 1 then 6 else 4 := by
  rcases (show kd = 0 ∨ kd = 1 ∨ kd = 2 by omega) with rfl | rfl | rfl <;> rfl
theorem ctX6_kind {l : Launch} {G : GM} {h : List va_E} {kd : Nat} (hk : kd < 3) : Ct l G mX6_kindWord 0 0 0 [.int (nI kd)] h (fun r h1 => r = some (.ref (gS G (18 + kd))) ∧ h1 = h) := by
  rcases (show kd = 0 ∨ kd = 1 ∨ kd = 2 by omega) with rfl | rfl | rfl
  · exact ctX6_kind0
  · exact ctX6_kind1
  · exact ctX6_kind2
def pcB (p : Pl) (i : Nat) : List Int32 := tS17 ++ [nI 32] ++ nmB (p.2 0 (p.2 8 i).toNatClampNeg) ++ [nI 32] ++ (kdq (p.2 9 i).toNatClampNeg).2.2.2 ++ [nI 32] ++ numB (p.2 10 i).toNatClampNeg ++ [nI 32] ++ numB (p.2 12 i).toNatClampNeg ++ [nI 59]
def hdB (p : Pl) : List Int32 := tS11 ++ [nI 32] ++ numB (p.1 3).toNatClampNeg ++ [nI 32] ++ numB (p.1 4).toNatClampNeg ++ [nI 59] ++ tS12 ++ [nI 32] ++ numB (p.1 5).toNatClampNeg ++ [nI 59] ++ tS13 ++ [nI 32] ++ numB (p.1 6).toNatClampNeg ++ [nI 59]
def wtB (p : Pl) (ny ns nz np : Nat) : List Int32 := hdB p ++ ctB p ny ns nz ++ (List.range' 0 np).flatMap (pcB p)
section TXL
variable {l : Launch} {G : GM} {K : Nat → Option va_E} {w0 : Wd} {T : List Int32} {M : MD} {d k u pc idx X N : Nat} {lv : List (Nat × Value)} {rest : List Value} {h : List va_E} {Q : Option Value → List va_E → Prop}
theorem am_tsL (t : TS G K w0 T h X N k u) (hd : decode M.2.1 pc = .ok (.invokevirtual idx, 3)) (hM : okV M.1.cls idx mJ4_setLength_d00df 1) (hw : (rest.map fun v => v.category).sum ≤ 8) (hd2 : 6 ≤ d)
    (kk : ∀ h1 : List va_E, TS G K w0 [] h1 X N k u → Tr l G M d k u (pc + 3) lv rest h1 Q) : Tr l G M d k u pc lv (.int 0 :: .ref (gz G + 19) :: rest) h Q := by
  obtain ⟨m, t1, t2, t3, t4⟩ := t
  obtain ⟨v, f, ml, hb, -, -, -⟩ := tb_sb t1
  refine am_callV (As := [.int 0]) (rest := rest) hd hM rfl hb.1 rfl rfl hw hd2 (k2 := 0) (Nat.zero_le _) (u2 := 0) (Nat.zero_le _) (Nat.le_of_ble_eq_true rfl) (ctJ4_setLen hb) (fun r h1 hq => ?_)
  obtain ⟨rfl, ml1, hb1, hF⟩ := hq
  exact kk h1 ⟨m, tb_to t1 hb hb1 hF (T1 := []) rfl (fun j hj => absurd hj (Nat.not_lt_zero j)), t2, t3, t4⟩
end TXL
theorem dX6_writePlant_134 : decode cX6_writePlant 134 = .ok (.iload_n 1, 1) := by decide +kernel
theorem dX6_writePlant_135 : decode cX6_writePlant 135 = .ok (.aload_n 0, 1) := by decide +kernel
theorem dX6_writePlant_136 : decode cX6_writePlant 136 = .ok (.getfield 33, 3) := by decide +kernel
theorem dX6_writePlant_139 : decode cX6_writePlant 139 = .ok (.getfield 83, 3) := by decide +kernel
theorem dX6_writePlant_142 : decode cX6_writePlant 142 = .ok (.if_icmp .ge 133, 3) := by decide +kernel
theorem dX6_writePlant_145 : decode cX6_writePlant 145 = .ok (.aload_n 0, 1) := by decide +kernel
theorem dX6_writePlant_146 : decode cX6_writePlant 146 = .ok (.getfield 26, 3) := by decide +kernel
theorem dX6_writePlant_149 : decode cX6_writePlant 149 = .ok (.ldc_w 314, 3) := by decide +kernel
theorem dX6_writePlant_152 : decode cX6_writePlant 152 = .ok (.invokevirtual 294, 3) := by decide +kernel
theorem dX6_writePlant_155 : decode cX6_writePlant 155 = .ok (.bipush 32, 2) := by decide +kernel
theorem dX6_writePlant_157 : decode cX6_writePlant 157 = .ok (.invokevirtual 298, 3) := by decide +kernel
theorem dX6_writePlant_160 : decode cX6_writePlant 160 = .ok (.pop, 1) := by decide +kernel
theorem dX6_writePlant_161 : decode cX6_writePlant 161 = .ok (.aload_n 0, 1) := by decide +kernel
theorem dX6_writePlant_162 : decode cX6_writePlant 162 = .ok (.aload_n 0, 1) := by decide +kernel
theorem dX6_writePlant_163 : decode cX6_writePlant 163 = .ok (.getfield 33, 3) := by decide +kernel
theorem dX6_writePlant_166 : decode cX6_writePlant 166 = .ok (.getfield 96, 3) := by decide +kernel
theorem dX6_writePlant_169 : decode cX6_writePlant 169 = .ok (.getfield 100, 3) := by decide +kernel
theorem dX6_writePlant_172 : decode cX6_writePlant 172 = .ok (.aload_n 0, 1) := by decide +kernel
theorem dX6_writePlant_173 : decode cX6_writePlant 173 = .ok (.getfield 33, 3) := by decide +kernel
theorem dX6_writePlant_176 : decode cX6_writePlant 176 = .ok (.getfield 154, 3) := by decide +kernel
theorem dX6_writePlant_179 : decode cX6_writePlant 179 = .ok (.iload_n 1, 1) := by decide +kernel
theorem dX6_writePlant_180 : decode cX6_writePlant 180 = .ok (.invokestatic 144, 3) := by decide +kernel
theorem dX6_writePlant_183 : decode cX6_writePlant 183 = .ok (.invokestatic 144, 3) := by decide +kernel
theorem dX6_writePlant_186 : decode cX6_writePlant 186 = .ok (.invokevirtual 316, 3) := by decide +kernel
theorem dX6_writePlant_189 : decode cX6_writePlant 189 = .ok (.aload_n 0, 1) := by decide +kernel
theorem dX6_writePlant_190 : decode cX6_writePlant 190 = .ok (.getfield 26, 3) := by decide +kernel
theorem dX6_writePlant_193 : decode cX6_writePlant 193 = .ok (.bipush 32, 2) := by decide +kernel
theorem dX6_writePlant_195 : decode cX6_writePlant 195 = .ok (.invokevirtual 298, 3) := by decide +kernel
theorem dX6_writePlant_198 : decode cX6_writePlant 198 = .ok (.aload_n 0, 1) := by decide +kernel
theorem dX6_writePlant_199 : decode cX6_writePlant 199 = .ok (.getfield 33, 3) := by decide +kernel
theorem dX6_writePlant_202 : decode cX6_writePlant 202 = .ok (.getfield 156, 3) := by decide +kernel
theorem dX6_writePlant_205 : decode cX6_writePlant 205 = .ok (.iload_n 1, 1) := by decide +kernel
theorem dX6_writePlant_206 : decode cX6_writePlant 206 = .ok (.invokestatic 144, 3) := by decide +kernel
theorem dX6_writePlant_209 : decode cX6_writePlant 209 = .ok (.invokestatic 319, 3) := by decide +kernel
theorem dX6_writePlant_212 : decode cX6_writePlant 212 = .ok (.invokevirtual 294, 3) := by decide +kernel
theorem dX6_writePlant_215 : decode cX6_writePlant 215 = .ok (.pop, 1) := by decide +kernel
theorem dX6_writePlant_216 : decode cX6_writePlant 216 = .ok (.aload_n 0, 1) := by decide +kernel
theorem dX6_writePlant_217 : decode cX6_writePlant 217 = .ok (.getfield 26, 3) := by decide +kernel
theorem dX6_writePlant_220 : decode cX6_writePlant 220 = .ok (.bipush 32, 2) := by decide +kernel
theorem dX6_writePlant_222 : decode cX6_writePlant 222 = .ok (.invokevirtual 298, 3) := by decide +kernel
theorem dX6_writePlant_225 : decode cX6_writePlant 225 = .ok (.aload_n 0, 1) := by decide +kernel
theorem dX6_writePlant_226 : decode cX6_writePlant 226 = .ok (.getfield 33, 3) := by decide +kernel
theorem dX6_writePlant_229 : decode cX6_writePlant 229 = .ok (.getfield 148, 3) := by decide +kernel
theorem dX6_writePlant_232 : decode cX6_writePlant 232 = .ok (.iload_n 1, 1) := by decide +kernel
theorem dX6_writePlant_233 : decode cX6_writePlant 233 = .ok (.invokestatic 144, 3) := by decide +kernel
theorem dX6_writePlant_236 : decode cX6_writePlant 236 = .ok (.invokevirtual 301, 3) := by decide +kernel
theorem dX6_writePlant_239 : decode cX6_writePlant 239 = .ok (.pop, 1) := by decide +kernel
theorem dX6_writePlant_240 : decode cX6_writePlant 240 = .ok (.aload_n 0, 1) := by decide +kernel
theorem dX6_writePlant_241 : decode cX6_writePlant 241 = .ok (.getfield 26, 3) := by decide +kernel
theorem dX6_writePlant_244 : decode cX6_writePlant 244 = .ok (.bipush 32, 2) := by decide +kernel
theorem dX6_writePlant_246 : decode cX6_writePlant 246 = .ok (.invokevirtual 298, 3) := by decide +kernel
theorem dX6_writePlant_249 : decode cX6_writePlant 249 = .ok (.aload_n 0, 1) := by decide +kernel
theorem dX6_writePlant_250 : decode cX6_writePlant 250 = .ok (.getfield 33, 3) := by decide +kernel
theorem dX6_writePlant_253 : decode cX6_writePlant 253 = .ok (.getfield 151, 3) := by decide +kernel
theorem dX6_writePlant_256 : decode cX6_writePlant 256 = .ok (.iload_n 1, 1) := by decide +kernel
theorem dX6_writePlant_257 : decode cX6_writePlant 257 = .ok (.invokestatic 144, 3) := by decide +kernel
theorem dX6_writePlant_260 : decode cX6_writePlant 260 = .ok (.invokevirtual 301, 3) := by decide +kernel
theorem dX6_writePlant_263 : decode cX6_writePlant 263 = .ok (.bipush 59, 2) := by decide +kernel
theorem dX6_writePlant_265 : decode cX6_writePlant 265 = .ok (.invokevirtual 298, 3) := by decide +kernel
theorem dX6_writePlant_268 : decode cX6_writePlant 268 = .ok (.pop, 1) := by decide +kernel
theorem dX6_writePlant_269 : decode cX6_writePlant 269 = .ok (.iinc 1 1, 3) := by decide +kernel
theorem dX6_writePlant_272 : decode cX6_writePlant 272 = .ok (.goto (-138), 3) := by decide +kernel
set_option maxRecDepth 20000 in
theorem wp_loop {l : Launch} {G : GM} {K : Nat → Option va_E} {w0 : Wd} {X N : Nat} {Q : Option Value → List va_E → Prop} (hX2 : X ≤ 2000) {np : Nat} (hc : (w0.2.2.1 1).1 8 = nI np) (hn : np ≤ 14) (hz : ∀ i, i < np → ∃ y kd a b : Nat, y < 6 ∧ kd < 3 ∧ a < 10000 ∧ b < 10000 ∧ (w0.2.2.1 1).2 8 i = nI y ∧ (w0.2.2.1 1).2 9 i = nI kd ∧ (w0.2.2.1 1).2 10 i = nI a ∧ (w0.2.2.1 1).2 12 i = nI b) : ∀ (r i : Nat) (T : List Int32) (h : List va_E) (k u : Nat), i + r = np → TS G K w0 T h X N k u → T.length + ((List.range' i r).flatMap (pcB (w0.2.2.1 1))).length ≤ X → (∀ (h1 : List va_E) (k1 u1 : Nat), TS G K w0 (T ++ (List.range' i r).flatMap (pcB (w0.2.2.1 1))) h1 X N k1 u1 → Tr l G mX6_writePlant 9 k1 u1 275 [(0, .ref (gz G + 0))] [] h1 Q) → Tr l G mX6_writePlant 9 k u 134 [(1, .int (nI i)), (0, .ref (gz G + 0))] [] h Q := by
  intro r
  induction r with
  | zero =>
    intro i T h k u hi t hX kk
    refine am_iload_n dX6_writePlant_134 0 rfl ?_
    refine am_aload_n dX6_writePlant_135 1 rfl ?_
    refine am_get dX6_writePlant_136 kGX6_33 (ts_c0 t) rfl ?_
    refine am_get dX6_writePlant_139 kGX6_83 (pl_0 (ts_P1 t)) rfl ?_
    refine am_icmp_ge dX6_writePlant_142 (by decide : ((142 : Nat) : Int) + (133) = ((275 : Nat) : Int)) (fun _ => ?_) (fun zq => absurd (show (w0.2.2.1 1).1 8 ≤ nI i by rw [hc, nI_leI (by omega) (by omega)]; omega) zq)
    refine am_lv [1] rfl ?_
    rw [show (List.range' i 0).flatMap (pcB (w0.2.2.1 1)) = [] from rfl, List.append_nil] at kk
    exact kk _ _ _ t
  | succ r ih =>
    intro i T h k u hi t hX kk
    rw [List.range'_succ, List.flatMap_cons] at hX kk
    obtain ⟨y, kd, a, b, hy6, hkd, la, lb, ey, ek, ea, eb⟩ := hz i (by omega)
    have hy : (pcB (w0.2.2.1 1) i).length = 5 + 1 + (nmB ((w0.2.2.1 1).2 0 y)).length + 1 + (kdq kd).2.2.2.length + 1 + sbW a + 1 + sbW b + 1 := by unfold pcB; rw [ey, ek, ea, eb, nI_clamp (n := a) (by omega), nI_clamp (n := b) (by omega), nI_clamp (n := y) (by omega), nI_clamp (n := kd) (by omega)]; simp only [List.length_append, List.length_cons, List.length_nil, numB_len, tS11_len, tS12_len, tS13_len, tS14_len, tS15_len, tS16_len, tS17_len, tS18_len, tS19_len, tS20_len]
    rw [List.length_append] at hX
    rw [kdq_len hkd] at hy
    refine am_iload_n dX6_writePlant_134 0 rfl ?_
    refine am_aload_n dX6_writePlant_135 1 rfl ?_
    refine am_get dX6_writePlant_136 kGX6_33 (ts_c0 t) rfl ?_
    refine am_get dX6_writePlant_139 kGX6_83 (pl_0 (ts_P1 t)) rfl ?_
    refine am_icmp_ge dX6_writePlant_142 (by decide : ((142 : Nat) : Int) + (133) = ((275 : Nat) : Int)) (fun zq => absurd zq (show ¬ (w0.2.2.1 1).1 8 ≤ nI i by rw [hc, nI_leI (by omega) (by omega)]; omega)) (fun _ => ?_)
    refine am_aload_n dX6_writePlant_145 1 rfl ?_
    refine am_get dX6_writePlant_146 kGX6_26 (ts_c0 t) rfl ?_
    refine am_ldcwS (j := 17) dX6_writePlant_149 rfl ?_
    refine am_tsS (j := 17) (qs := sq17) t rfl (by simp only [List.length_append, List.length_cons, List.length_nil, numB_len, tS11_len, tS12_len, tS13_len, tS14_len, tS15_len, tS16_len, tS17_len, tS18_len, tS19_len, tS20_len]; (try rw [kdq_len hkd]); omega) hX2 dX6_writePlant_152 kMX6_294 (Nat.le_of_ble_eq_true rfl) (by decide) (fun h1 k1 u1 t1 => ?_)
    have t1 : TS G K w0 (T ++ tS17) _ X N _ _ := t1
    refine am_bipush (v := 32) dX6_writePlant_155 (by decide) ?_
    refine am_tsC (b := 32) t1 rfl (by decide) (by simp only [List.length_append, List.length_cons, List.length_nil, numB_len, tS11_len, tS12_len, tS13_len, tS14_len, tS15_len, tS16_len, tS17_len, tS18_len, tS19_len, tS20_len]; (try rw [kdq_len hkd]); omega) hX2 dX6_writePlant_157 kMX6_298 (Nat.le_of_ble_eq_true rfl) (by decide) (fun h2 k2 u2 t2 => ?_)
    have t2 : TS G K w0 ((T ++ tS17) ++ [nI 32]) _ X N _ _ := t2
    refine am_pop dX6_writePlant_160 rfl ?_
    refine am_aload_n dX6_writePlant_161 1 rfl ?_
    refine am_aload_n dX6_writePlant_162 1 rfl ?_
    refine am_get dX6_writePlant_163 kGX6_33 (ts_c0 t2) rfl ?_
    refine am_get dX6_writePlant_166 kGX6_96 (pl_0 (ts_P1 t2)) rfl ?_
    refine am_get dX6_writePlant_169 kGX6_100 (pl_1 (ts_P1 t2)) rfl ?_
    refine am_aload_n dX6_writePlant_172 1 rfl ?_
    refine am_get dX6_writePlant_173 kGX6_33 (ts_c0 t2) rfl ?_
    refine am_get dX6_writePlant_176 kGX6_154 (pl_0 (ts_P1 t2)) rfl ?_
    refine am_iload_n dX6_writePlant_179 0 rfl ?_
    refine am_callS (As := [.ref (gz G + (21 + 10)), .int (nI i)]) (rest := [.ref (gz G + (21 + 2)), .ref (gz G + 0)]) dX6_writePlant_180 kMX6_144 rfl rfl (Nat.le_of_ble_eq_true rfl) (d2 := 0) (by decide) (k2 := 0) (Nat.zero_le _) (u2 := 0) (Nat.zero_le _) (Nat.le_of_ble_eq_true rfl) (ctX6_at (pl_r8 (ts_P1 t2)) (by decide) (nI i)) (fun v hh q => ?_)
    obtain ⟨rfl, rfl⟩ := q
    rw [hz_at ((w0.2.2.1 1).2 8) (show i < 14 by omega) (by decide), ey]
    refine am_callS (As := [.ref (gz G + (21 + 2)), .int (nI y)]) (rest := [.ref (gz G + 0)]) dX6_writePlant_183 kMX6_144 rfl rfl (Nat.le_of_ble_eq_true rfl) (d2 := 0) (by decide) (k2 := 0) (Nat.zero_le _) (u2 := 0) (Nat.zero_le _) (Nat.le_of_ble_eq_true rfl) (ctX6_at (pl_r0 (ts_P1 t2)) (by decide) (nI y)) (fun v hh q => ?_)
    obtain ⟨rfl, rfl⟩ := q
    rw [hz_at ((w0.2.2.1 1).2 0) (show y < 6 by omega) (by decide)]
    refine am_tsV (L := nmB ((w0.2.2.1 1).2 0 y)) (i := 0) (As := [.int ((w0.2.2.1 1).2 0 y)]) (rest := []) (d2 := 7) t2 (by simp only [List.length_append, List.length_cons, List.length_nil, numB_len, tS11_len, tS12_len, tS13_len, tS14_len, tS15_len, tS16_len, tS17_len, tS18_len, tS19_len, tS20_len]; (try rw [kdq_len hkd]); omega) dX6_writePlant_186 kMX6_316 rfl (ts_c0 t2) rfl rfl (Nat.le_of_ble_eq_true rfl) (by decide) (Nat.le_of_ble_eq_true rfl) (fun m tm => ctX6_writeName tm (by simp only [List.length_append, List.length_cons, List.length_nil, numB_len, tS11_len, tS12_len, tS13_len, tS14_len, tS15_len, tS16_len, tS17_len, tS18_len, tS19_len, tS20_len]; omega)) (fun h3 k3 u3 t3 => ?_)
    have t3 : TS G K w0 (((T ++ tS17) ++ [nI 32]) ++ nmB ((w0.2.2.1 1).2 0 y)) _ X N _ _ := t3
    refine am_aload_n dX6_writePlant_189 1 rfl ?_
    refine am_get dX6_writePlant_190 kGX6_26 (ts_c0 t3) rfl ?_
    refine am_bipush (v := 32) dX6_writePlant_193 (by decide) ?_
    refine am_tsC (b := 32) t3 rfl (by decide) (by simp only [List.length_append, List.length_cons, List.length_nil, numB_len, tS11_len, tS12_len, tS13_len, tS14_len, tS15_len, tS16_len, tS17_len, tS18_len, tS19_len, tS20_len]; (try rw [kdq_len hkd]); omega) hX2 dX6_writePlant_195 kMX6_298 (Nat.le_of_ble_eq_true rfl) (by decide) (fun h4 k4 u4 t4 => ?_)
    have t4 : TS G K w0 ((((T ++ tS17) ++ [nI 32]) ++ nmB ((w0.2.2.1 1).2 0 y)) ++ [nI 32]) _ X N _ _ := t4
    refine am_aload_n dX6_writePlant_198 1 rfl ?_
    refine am_get dX6_writePlant_199 kGX6_33 (ts_c0 t4) rfl ?_
    refine am_get dX6_writePlant_202 kGX6_156 (pl_0 (ts_P1 t4)) rfl ?_
    refine am_iload_n dX6_writePlant_205 0 rfl ?_
    refine am_callS (As := [.ref (gz G + (21 + 11)), .int (nI i)]) (rest := [.ref (gz G + 19)]) dX6_writePlant_206 kMX6_144 rfl rfl (Nat.le_of_ble_eq_true rfl) (d2 := 0) (by decide) (k2 := 0) (Nat.zero_le _) (u2 := 0) (Nat.zero_le _) (Nat.le_of_ble_eq_true rfl) (ctX6_at (pl_r9 (ts_P1 t4)) (by decide) (nI i)) (fun v hh q => ?_)
    obtain ⟨rfl, rfl⟩ := q
    rw [hz_at ((w0.2.2.1 1).2 9) (show i < 14 by omega) (by decide), ek]
    refine am_callS (As := [.int (nI kd)]) (rest := [.ref (gz G + 19)]) dX6_writePlant_209 kMX6_319 rfl rfl (Nat.le_of_ble_eq_true rfl) (d2 := 0) (by decide) (k2 := 0) (Nat.zero_le _) (u2 := 0) (Nat.zero_le _) (Nat.le_of_ble_eq_true rfl) (ctX6_kind hkd) (fun v hh q => ?_)
    obtain ⟨rfl, rfl⟩ := q
    refine am_tsS (j := 18 + kd) (qs := kdq kd) t4 (kdq_at hkd) (by simp only [List.length_append, List.length_cons, List.length_nil, numB_len, tS11_len, tS12_len, tS13_len, tS14_len, tS15_len, tS16_len, tS17_len, tS18_len, tS19_len, tS20_len]; rw [kdq_len hkd]; omega) hX2 dX6_writePlant_212 kMX6_294 (Nat.le_of_ble_eq_true rfl) (by decide) (fun h5 k5 u5 t5 => ?_)
    have t5 : TS G K w0 (((((T ++ tS17) ++ [nI 32]) ++ nmB ((w0.2.2.1 1).2 0 y)) ++ [nI 32]) ++ (kdq kd).2.2.2) _ X N _ _ := t5
    refine am_pop dX6_writePlant_215 rfl ?_
    refine am_aload_n dX6_writePlant_216 1 rfl ?_
    refine am_get dX6_writePlant_217 kGX6_26 (ts_c0 t5) rfl ?_
    refine am_bipush (v := 32) dX6_writePlant_220 (by decide) ?_
    refine am_tsC (b := 32) t5 rfl (by decide) (by simp only [List.length_append, List.length_cons, List.length_nil, numB_len, tS11_len, tS12_len, tS13_len, tS14_len, tS15_len, tS16_len, tS17_len, tS18_len, tS19_len, tS20_len]; (try rw [kdq_len hkd]); omega) hX2 dX6_writePlant_222 kMX6_298 (Nat.le_of_ble_eq_true rfl) (by decide) (fun h6 k6 u6 t6 => ?_)
    have t6 : TS G K w0 ((((((T ++ tS17) ++ [nI 32]) ++ nmB ((w0.2.2.1 1).2 0 y)) ++ [nI 32]) ++ (kdq kd).2.2.2) ++ [nI 32]) _ X N _ _ := t6
    refine am_aload_n dX6_writePlant_225 1 rfl ?_
    refine am_get dX6_writePlant_226 kGX6_33 (ts_c0 t6) rfl ?_
    refine am_get dX6_writePlant_229 kGX6_148 (pl_0 (ts_P1 t6)) rfl ?_
    refine am_iload_n dX6_writePlant_232 0 rfl ?_
    refine am_callS (As := [.ref (gz G + (21 + 12)), .int (nI i)]) (rest := [.ref (gz G + 19)]) dX6_writePlant_233 kMX6_144 rfl rfl (Nat.le_of_ble_eq_true rfl) (d2 := 0) (by decide) (k2 := 0) (Nat.zero_le _) (u2 := 0) (Nat.zero_le _) (Nat.le_of_ble_eq_true rfl) (ctX6_at (pl_r10 (ts_P1 t6)) (by decide) (nI i)) (fun v hh q => ?_)
    obtain ⟨rfl, rfl⟩ := q
    rw [hz_at ((w0.2.2.1 1).2 10) (show i < 14 by omega) (by decide), ea]
    refine am_tsI (z := a) t6 (la) (by simp only [List.length_append, List.length_cons, List.length_nil, numB_len, tS11_len, tS12_len, tS13_len, tS14_len, tS15_len, tS16_len, tS17_len, tS18_len, tS19_len, tS20_len]; (try rw [kdq_len hkd]); omega) hX2 dX6_writePlant_236 kMX6_301 (Nat.le_of_ble_eq_true rfl) (by decide) (fun h7 k7 u7 t7 => ?_)
    have t7 : TS G K w0 (((((((T ++ tS17) ++ [nI 32]) ++ nmB ((w0.2.2.1 1).2 0 y)) ++ [nI 32]) ++ (kdq kd).2.2.2) ++ [nI 32]) ++ numB a) _ X N _ _ := t7
    refine am_pop dX6_writePlant_239 rfl ?_
    refine am_aload_n dX6_writePlant_240 1 rfl ?_
    refine am_get dX6_writePlant_241 kGX6_26 (ts_c0 t7) rfl ?_
    refine am_bipush (v := 32) dX6_writePlant_244 (by decide) ?_
    refine am_tsC (b := 32) t7 rfl (by decide) (by simp only [List.length_append, List.length_cons, List.length_nil, numB_len, tS11_len, tS12_len, tS13_len, tS14_len, tS15_len, tS16_len, tS17_len, tS18_len, tS19_len, tS20_len]; (try rw [kdq_len hkd]); omega) hX2 dX6_writePlant_246 kMX6_298 (Nat.le_of_ble_eq_true rfl) (by decide) (fun h8 k8 u8 t8 => ?_)
    have t8 : TS G K w0 ((((((((T ++ tS17) ++ [nI 32]) ++ nmB ((w0.2.2.1 1).2 0 y)) ++ [nI 32]) ++ (kdq kd).2.2.2) ++ [nI 32]) ++ numB a) ++ [nI 32]) _ X N _ _ := t8
    refine am_aload_n dX6_writePlant_249 1 rfl ?_
    refine am_get dX6_writePlant_250 kGX6_33 (ts_c0 t8) rfl ?_
    refine am_get dX6_writePlant_253 kGX6_151 (pl_0 (ts_P1 t8)) rfl ?_
    refine am_iload_n dX6_writePlant_256 0 rfl ?_
    refine am_callS (As := [.ref (gz G + (21 + 14)), .int (nI i)]) (rest := [.ref (gz G + 19)]) dX6_writePlant_257 kMX6_144 rfl rfl (Nat.le_of_ble_eq_true rfl) (d2 := 0) (by decide) (k2 := 0) (Nat.zero_le _) (u2 := 0) (Nat.zero_le _) (Nat.le_of_ble_eq_true rfl) (ctX6_at (pl_r12 (ts_P1 t8)) (by decide) (nI i)) (fun v hh q => ?_)
    obtain ⟨rfl, rfl⟩ := q
    rw [hz_at ((w0.2.2.1 1).2 12) (show i < 14 by omega) (by decide), eb]
    refine am_tsI (z := b) t8 (lb) (by simp only [List.length_append, List.length_cons, List.length_nil, numB_len, tS11_len, tS12_len, tS13_len, tS14_len, tS15_len, tS16_len, tS17_len, tS18_len, tS19_len, tS20_len]; (try rw [kdq_len hkd]); omega) hX2 dX6_writePlant_260 kMX6_301 (Nat.le_of_ble_eq_true rfl) (by decide) (fun h9 k9 u9 t9 => ?_)
    have t9 : TS G K w0 (((((((((T ++ tS17) ++ [nI 32]) ++ nmB ((w0.2.2.1 1).2 0 y)) ++ [nI 32]) ++ (kdq kd).2.2.2) ++ [nI 32]) ++ numB a) ++ [nI 32]) ++ numB b) _ X N _ _ := t9
    refine am_bipush (v := 59) dX6_writePlant_263 (by decide) ?_
    refine am_tsC (b := 59) t9 rfl (by decide) (by simp only [List.length_append, List.length_cons, List.length_nil, numB_len, tS11_len, tS12_len, tS13_len, tS14_len, tS15_len, tS16_len, tS17_len, tS18_len, tS19_len, tS20_len]; (try rw [kdq_len hkd]); omega) hX2 dX6_writePlant_265 kMX6_298 (Nat.le_of_ble_eq_true rfl) (by decide) (fun h10 k10 u10 t10 => ?_)
    have t10 : TS G K w0 ((((((((((T ++ tS17) ++ [nI 32]) ++ nmB ((w0.2.2.1 1).2 0 y)) ++ [nI 32]) ++ (kdq kd).2.2.2) ++ [nI 32]) ++ numB a) ++ [nI 32]) ++ numB b) ++ [nI 59]) _ X N _ _ := t10
    refine am_pop dX6_writePlant_268 rfl ?_
    refine am_iinc (v := (nI (i + 1))) dX6_writePlant_269 0 rfl (nI_succ i).symm (by decide) (lv' := [(1, .int (nI (i + 1))), (0, .ref (gz G + 0))]) rfl ?_
    refine am_goto dX6_writePlant_272 (by decide : ((272 : Nat) : Int) + (-138) = ((134 : Nat) : Int)) ?_
    refine am_lv [0, 1] rfl ?_
    have eT : T ++ pcB (w0.2.2.1 1) i = ((((((((((T ++ tS17) ++ [nI 32]) ++ nmB ((w0.2.2.1 1).2 0 y)) ++ [nI 32]) ++ (kdq kd).2.2.2) ++ [nI 32]) ++ numB a) ++ [nI 32]) ++ numB b) ++ [nI 59]) := by unfold pcB; rw [ey, ek, ea, eb, nI_clamp (n := a) (by omega), nI_clamp (n := b) (by omega), nI_clamp (n := y) (by omega), nI_clamp (n := kd) (by omega)]; simp only [List.append_assoc]
    rw [← eT] at t10
    exact ih (i + 1) _ _ _ _ (by omega) t10 (by rw [List.length_append]; omega) (fun h9 k9 u9 t9 => kk h9 k9 u9 (by rw [← List.append_assoc]; exact t9))
theorem dX6_writePlant_0 : decode cX6_writePlant 0 = .ok (.aload_n 0, 1) := by decide +kernel
theorem dX6_writePlant_1 : decode cX6_writePlant 1 = .ok (.getfield 26, 3) := by decide +kernel
theorem dX6_writePlant_4 : decode cX6_writePlant 4 = .ok (.iconst 0, 1) := by decide +kernel
theorem dX6_writePlant_5 : decode cX6_writePlant 5 = .ok (.invokevirtual 289, 3) := by decide +kernel
theorem dX6_writePlant_8 : decode cX6_writePlant 8 = .ok (.aload_n 0, 1) := by decide +kernel
theorem dX6_writePlant_9 : decode cX6_writePlant 9 = .ok (.getfield 26, 3) := by decide +kernel
theorem dX6_writePlant_12 : decode cX6_writePlant 12 = .ok (.ldc_w 292, 3) := by decide +kernel
theorem dX6_writePlant_15 : decode cX6_writePlant 15 = .ok (.invokevirtual 294, 3) := by decide +kernel
theorem dX6_writePlant_18 : decode cX6_writePlant 18 = .ok (.bipush 32, 2) := by decide +kernel
theorem dX6_writePlant_20 : decode cX6_writePlant 20 = .ok (.invokevirtual 298, 3) := by decide +kernel
theorem dX6_writePlant_23 : decode cX6_writePlant 23 = .ok (.aload_n 0, 1) := by decide +kernel
theorem dX6_writePlant_24 : decode cX6_writePlant 24 = .ok (.getfield 33, 3) := by decide +kernel
theorem dX6_writePlant_27 : decode cX6_writePlant 27 = .ok (.getfield 129, 3) := by decide +kernel
theorem dX6_writePlant_30 : decode cX6_writePlant 30 = .ok (.invokevirtual 301, 3) := by decide +kernel
theorem dX6_writePlant_33 : decode cX6_writePlant 33 = .ok (.pop, 1) := by decide +kernel
theorem dX6_writePlant_34 : decode cX6_writePlant 34 = .ok (.aload_n 0, 1) := by decide +kernel
theorem dX6_writePlant_35 : decode cX6_writePlant 35 = .ok (.getfield 26, 3) := by decide +kernel
theorem dX6_writePlant_38 : decode cX6_writePlant 38 = .ok (.bipush 32, 2) := by decide +kernel
theorem dX6_writePlant_40 : decode cX6_writePlant 40 = .ok (.invokevirtual 298, 3) := by decide +kernel
theorem dX6_writePlant_43 : decode cX6_writePlant 43 = .ok (.aload_n 0, 1) := by decide +kernel
theorem dX6_writePlant_44 : decode cX6_writePlant 44 = .ok (.getfield 33, 3) := by decide +kernel
theorem dX6_writePlant_47 : decode cX6_writePlant 47 = .ok (.getfield 132, 3) := by decide +kernel
theorem dX6_writePlant_50 : decode cX6_writePlant 50 = .ok (.invokevirtual 301, 3) := by decide +kernel
theorem dX6_writePlant_53 : decode cX6_writePlant 53 = .ok (.bipush 59, 2) := by decide +kernel
theorem dX6_writePlant_55 : decode cX6_writePlant 55 = .ok (.invokevirtual 298, 3) := by decide +kernel
theorem dX6_writePlant_58 : decode cX6_writePlant 58 = .ok (.pop, 1) := by decide +kernel
theorem dX6_writePlant_59 : decode cX6_writePlant 59 = .ok (.aload_n 0, 1) := by decide +kernel
theorem dX6_writePlant_60 : decode cX6_writePlant 60 = .ok (.getfield 26, 3) := by decide +kernel
theorem dX6_writePlant_63 : decode cX6_writePlant 63 = .ok (.ldc_w 304, 3) := by decide +kernel
theorem dX6_writePlant_66 : decode cX6_writePlant 66 = .ok (.invokevirtual 294, 3) := by decide +kernel
theorem dX6_writePlant_69 : decode cX6_writePlant 69 = .ok (.bipush 32, 2) := by decide +kernel
theorem dX6_writePlant_71 : decode cX6_writePlant 71 = .ok (.invokevirtual 298, 3) := by decide +kernel
theorem dX6_writePlant_74 : decode cX6_writePlant 74 = .ok (.aload_n 0, 1) := by decide +kernel
theorem dX6_writePlant_75 : decode cX6_writePlant 75 = .ok (.getfield 33, 3) := by decide +kernel
theorem dX6_writePlant_78 : decode cX6_writePlant 78 = .ok (.getfield 135, 3) := by decide +kernel
theorem dX6_writePlant_81 : decode cX6_writePlant 81 = .ok (.invokevirtual 301, 3) := by decide +kernel
theorem dX6_writePlant_84 : decode cX6_writePlant 84 = .ok (.bipush 59, 2) := by decide +kernel
theorem dX6_writePlant_86 : decode cX6_writePlant 86 = .ok (.invokevirtual 298, 3) := by decide +kernel
theorem dX6_writePlant_89 : decode cX6_writePlant 89 = .ok (.pop, 1) := by decide +kernel
theorem dX6_writePlant_90 : decode cX6_writePlant 90 = .ok (.aload_n 0, 1) := by decide +kernel
theorem dX6_writePlant_91 : decode cX6_writePlant 91 = .ok (.getfield 26, 3) := by decide +kernel
theorem dX6_writePlant_94 : decode cX6_writePlant 94 = .ok (.ldc_w 306, 3) := by decide +kernel
theorem dX6_writePlant_97 : decode cX6_writePlant 97 = .ok (.invokevirtual 294, 3) := by decide +kernel
theorem dX6_writePlant_100 : decode cX6_writePlant 100 = .ok (.bipush 32, 2) := by decide +kernel
theorem dX6_writePlant_102 : decode cX6_writePlant 102 = .ok (.invokevirtual 298, 3) := by decide +kernel
theorem dX6_writePlant_105 : decode cX6_writePlant 105 = .ok (.aload_n 0, 1) := by decide +kernel
theorem dX6_writePlant_106 : decode cX6_writePlant 106 = .ok (.getfield 33, 3) := by decide +kernel
theorem dX6_writePlant_109 : decode cX6_writePlant 109 = .ok (.getfield 308, 3) := by decide +kernel
theorem dX6_writePlant_112 : decode cX6_writePlant 112 = .ok (.invokevirtual 301, 3) := by decide +kernel
theorem dX6_writePlant_115 : decode cX6_writePlant 115 = .ok (.bipush 59, 2) := by decide +kernel
theorem dX6_writePlant_117 : decode cX6_writePlant 117 = .ok (.invokevirtual 298, 3) := by decide +kernel
theorem dX6_writePlant_120 : decode cX6_writePlant 120 = .ok (.pop, 1) := by decide +kernel
theorem dX6_writePlant_121 : decode cX6_writePlant 121 = .ok (.aload_n 0, 1) := by decide +kernel
theorem dX6_writePlant_122 : decode cX6_writePlant 122 = .ok (.aload_n 0, 1) := by decide +kernel
theorem dX6_writePlant_123 : decode cX6_writePlant 123 = .ok (.getfield 33, 3) := by decide +kernel
theorem dX6_writePlant_126 : decode cX6_writePlant 126 = .ok (.getfield 96, 3) := by decide +kernel
theorem dX6_writePlant_129 : decode cX6_writePlant 129 = .ok (.invokevirtual 310, 3) := by decide +kernel
theorem dX6_writePlant_132 : decode cX6_writePlant 132 = .ok (.iconst 0, 1) := by decide +kernel
theorem dX6_writePlant_133 : decode cX6_writePlant 133 = .ok (.istore_n 1, 1) := by decide +kernel
theorem dX6_writePlant_275 : decode cX6_writePlant 275 = .ok (.aload_n 0, 1) := by decide +kernel
theorem dX6_writePlant_276 : decode cX6_writePlant 276 = .ok (.getfield 26, 3) := by decide +kernel
theorem dX6_writePlant_279 : decode cX6_writePlant 279 = .ok (.invokevirtual 323, 3) := by decide +kernel
theorem dX6_writePlant_282 : decode cX6_writePlant 282 = .ok (.ireturn, 1) := by decide +kernel
set_option maxRecDepth 20000 in
theorem ctX6_writePlant {l : Launch} {G : GM} {K : Nat → Option va_E} {w0 : Wd} {T : List Int32} {h : List va_E} {m ny ns nz np z3 z4 z5 z6 : Nat} (t0 : TB G K w0 T h m) (hX : (wtB (w0.2.2.1 1) ny ns nz np).length ≤ 2000) (hc0 : (w0.2.2.1 1).1 0 = nI ny) (hn0 : ny ≤ 6) (hz0 : ∀ i, i < ny → ∃ a b : Nat, a < 10000 ∧ b < 10000 ∧ (w0.2.2.1 1).2 1 i = nI a ∧ (w0.2.2.1 1).2 2 i = nI b) (hc1 : (w0.2.2.1 1).1 1 = nI ns) (hn1 : ns ≤ 8) (hz1 : ∀ i, i < ns → ∃ a : Nat, a < 10000 ∧ (w0.2.2.1 1).2 4 i = nI a) (hc2 : (w0.2.2.1 1).1 2 = nI nz) (hn2 : nz ≤ 6) (hz2 : ∀ i, i < nz → ∃ a b : Nat, a < 10000 ∧ b < 10000 ∧ (w0.2.2.1 1).2 6 i = nI a ∧ (w0.2.2.1 1).2 7 i = nI b) (hc8 : (w0.2.2.1 1).1 8 = nI np) (hn8 : np ≤ 14) (hz8 : ∀ i, i < np → ∃ y kd a b : Nat, y < 6 ∧ kd < 3 ∧ a < 10000 ∧ b < 10000 ∧ (w0.2.2.1 1).2 8 i = nI y ∧ (w0.2.2.1 1).2 9 i = nI kd ∧ (w0.2.2.1 1).2 10 i = nI a ∧ (w0.2.2.1 1).2 12 i = nI b) (l3 : z3 < 10000) (l4 : z4 < 10000) (l5 : z5 < 10000) (l6 : z6 < 10000) (e3 : (w0.2.2.1 1).1 3 = nI z3) (e4 : (w0.2.2.1 1).1 4 = nI z4) (e5 : (w0.2.2.1 1).1 5 = nI z5) (e6 : (w0.2.2.1 1).1 6 = nI z6) : Ct l G mX6_writePlant 9 (cK (wtB (w0.2.2.1 1) ny ns nz np).length m) (cU (wtB (w0.2.2.1 1) ny ns nz np).length m) [.ref (gz G + 0)] h (fun r h1 => r = some (.int (nI (wtB (w0.2.2.1 1) ny ns nz np).length)) ∧ TB G K w0 (wtB (w0.2.2.1 1) ny ns nz np) h1 (cN (wtB (w0.2.2.1 1) ny ns nz np).length m)) := by
  have t := ts_start t0 (wtB (w0.2.2.1 1) ny ns nz np).length
  have hl : (wtB (w0.2.2.1 1) ny ns nz np).length = (hdB (w0.2.2.1 1)).length + (ctB (w0.2.2.1 1) ny ns nz).length + ((List.range' 0 np).flatMap (pcB (w0.2.2.1 1))).length := by unfold wtB; simp only [List.length_append]
  have hh : (hdB (w0.2.2.1 1)).length = 9 + 1 + sbW z3 + 1 + sbW z4 + 1 + 5 + 1 + sbW z5 + 1 + 3 + 1 + sbW z6 + 1 := by unfold hdB; rw [e3, e4, e5, e6, nI_clamp (n := z3) (by omega), nI_clamp (n := z4) (by omega), nI_clamp (n := z5) (by omega), nI_clamp (n := z6) (by omega)]; simp only [List.length_append, List.length_cons, List.length_nil, numB_len, tS11_len, tS12_len, tS13_len, tS14_len, tS15_len, tS16_len, tS17_len, tS18_len, tS19_len, tS20_len]
  show Tr l G mX6_writePlant 9 _ _ 0 [(0, .ref (gz G + 0))] [] h _
  generalize hXX : (wtB (w0.2.2.1 1) ny ns nz np).length = X at *
  generalize cN X m = N at *
  generalize cK X m = kk at *
  generalize cU X m = uu at *
  have hX2 := hX
  refine am_aload_n dX6_writePlant_0 0 rfl ?_
  refine am_get dX6_writePlant_1 kGX6_26 (ts_c0 t) rfl ?_
  refine am_iconst (v := 0) dX6_writePlant_4 (by decide) ?_
  refine am_tsL t dX6_writePlant_5 kMX6_289 (Nat.le_of_ble_eq_true rfl) (by decide) (fun h1 t1 => ?_)
  refine am_aload_n dX6_writePlant_8 0 rfl ?_
  refine am_get dX6_writePlant_9 kGX6_26 (ts_c0 t1) rfl ?_
  refine am_ldcwS (j := 11) dX6_writePlant_12 rfl ?_
  refine am_tsS (j := 11) (qs := sq11) t1 rfl (by simp only [List.length_append, List.length_cons, List.length_nil, numB_len, tS11_len, tS12_len, tS13_len, tS14_len, tS15_len, tS16_len, tS17_len, tS18_len, tS19_len, tS20_len]; omega) hX2 dX6_writePlant_15 kMX6_294 (Nat.le_of_ble_eq_true rfl) (by decide) (fun h2 k2 u2 t2 => ?_)
  have t2 : TS G K w0 ([] ++ tS11) _ X N _ _ := t2
  refine am_bipush (v := 32) dX6_writePlant_18 (by decide) ?_
  refine am_tsC (b := 32) t2 rfl (by decide) (by simp only [List.length_append, List.length_cons, List.length_nil, numB_len, tS11_len, tS12_len, tS13_len, tS14_len, tS15_len, tS16_len, tS17_len, tS18_len, tS19_len, tS20_len]; omega) hX2 dX6_writePlant_20 kMX6_298 (Nat.le_of_ble_eq_true rfl) (by decide) (fun h3 k3 u3 t3 => ?_)
  have t3 : TS G K w0 (([] ++ tS11) ++ [nI 32]) _ X N _ _ := t3
  refine am_aload_n dX6_writePlant_23 0 rfl ?_
  refine am_get dX6_writePlant_24 kGX6_33 (ts_c0 t3) rfl ?_
  refine am_get dX6_writePlant_27 kGX6_129 (pl_0 (ts_P1 t3)) rfl ?_
  rw [e3]
  refine am_tsI (z := z3) t3 (l3) (by simp only [List.length_append, List.length_cons, List.length_nil, numB_len, tS11_len, tS12_len, tS13_len, tS14_len, tS15_len, tS16_len, tS17_len, tS18_len, tS19_len, tS20_len]; omega) hX2 dX6_writePlant_30 kMX6_301 (Nat.le_of_ble_eq_true rfl) (by decide) (fun h4 k4 u4 t4 => ?_)
  have t4 : TS G K w0 ((([] ++ tS11) ++ [nI 32]) ++ numB z3) _ X N _ _ := t4
  refine am_pop dX6_writePlant_33 rfl ?_
  refine am_aload_n dX6_writePlant_34 0 rfl ?_
  refine am_get dX6_writePlant_35 kGX6_26 (ts_c0 t4) rfl ?_
  refine am_bipush (v := 32) dX6_writePlant_38 (by decide) ?_
  refine am_tsC (b := 32) t4 rfl (by decide) (by simp only [List.length_append, List.length_cons, List.length_nil, numB_len, tS11_len, tS12_len, tS13_len, tS14_len, tS15_len, tS16_len, tS17_len, tS18_len, tS19_len, tS20_len]; omega) hX2 dX6_writePlant_40 kMX6_298 (Nat.le_of_ble_eq_true rfl) (by decide) (fun h5 k5 u5 t5 => ?_)
  have t5 : TS G K w0 (((([] ++ tS11) ++ [nI 32]) ++ numB z3) ++ [nI 32]) _ X N _ _ := t5
  refine am_aload_n dX6_writePlant_43 0 rfl ?_
  refine am_get dX6_writePlant_44 kGX6_33 (ts_c0 t5) rfl ?_
  refine am_get dX6_writePlant_47 kGX6_132 (pl_0 (ts_P1 t5)) rfl ?_
  rw [e4]
  refine am_tsI (z := z4) t5 (l4) (by simp only [List.length_append, List.length_cons, List.length_nil, numB_len, tS11_len, tS12_len, tS13_len, tS14_len, tS15_len, tS16_len, tS17_len, tS18_len, tS19_len, tS20_len]; omega) hX2 dX6_writePlant_50 kMX6_301 (Nat.le_of_ble_eq_true rfl) (by decide) (fun h6 k6 u6 t6 => ?_)
  have t6 : TS G K w0 ((((([] ++ tS11) ++ [nI 32]) ++ numB z3) ++ [nI 32]) ++ numB z4) _ X N _ _ := t6
  refine am_bipush (v := 59) dX6_writePlant_53 (by decide) ?_
  refine am_tsC (b := 59) t6 rfl (by decide) (by simp only [List.length_append, List.length_cons, List.length_nil, numB_len, tS11_len, tS12_len, tS13_len, tS14_len, tS15_len, tS16_len, tS17_len, tS18_len, tS19_len, tS20_len]; omega) hX2 dX6_writePlant_55 kMX6_298 (Nat.le_of_ble_eq_true rfl) (by decide) (fun h7 k7 u7 t7 => ?_)
  have t7 : TS G K w0 (((((([] ++ tS11) ++ [nI 32]) ++ numB z3) ++ [nI 32]) ++ numB z4) ++ [nI 59]) _ X N _ _ := t7
  refine am_pop dX6_writePlant_58 rfl ?_
  refine am_aload_n dX6_writePlant_59 0 rfl ?_
  refine am_get dX6_writePlant_60 kGX6_26 (ts_c0 t7) rfl ?_
  refine am_ldcwS (j := 12) dX6_writePlant_63 rfl ?_
  refine am_tsS (j := 12) (qs := sq12) t7 rfl (by simp only [List.length_append, List.length_cons, List.length_nil, numB_len, tS11_len, tS12_len, tS13_len, tS14_len, tS15_len, tS16_len, tS17_len, tS18_len, tS19_len, tS20_len]; omega) hX2 dX6_writePlant_66 kMX6_294 (Nat.le_of_ble_eq_true rfl) (by decide) (fun h8 k8 u8 t8 => ?_)
  have t8 : TS G K w0 ((((((([] ++ tS11) ++ [nI 32]) ++ numB z3) ++ [nI 32]) ++ numB z4) ++ [nI 59]) ++ tS12) _ X N _ _ := t8
  refine am_bipush (v := 32) dX6_writePlant_69 (by decide) ?_
  refine am_tsC (b := 32) t8 rfl (by decide) (by simp only [List.length_append, List.length_cons, List.length_nil, numB_len, tS11_len, tS12_len, tS13_len, tS14_len, tS15_len, tS16_len, tS17_len, tS18_len, tS19_len, tS20_len]; omega) hX2 dX6_writePlant_71 kMX6_298 (Nat.le_of_ble_eq_true rfl) (by decide) (fun h9 k9 u9 t9 => ?_)
  have t9 : TS G K w0 (((((((([] ++ tS11) ++ [nI 32]) ++ numB z3) ++ [nI 32]) ++ numB z4) ++ [nI 59]) ++ tS12) ++ [nI 32]) _ X N _ _ := t9
  refine am_aload_n dX6_writePlant_74 0 rfl ?_
  refine am_get dX6_writePlant_75 kGX6_33 (ts_c0 t9) rfl ?_
  refine am_get dX6_writePlant_78 kGX6_135 (pl_0 (ts_P1 t9)) rfl ?_
  rw [e5]
  refine am_tsI (z := z5) t9 (l5) (by simp only [List.length_append, List.length_cons, List.length_nil, numB_len, tS11_len, tS12_len, tS13_len, tS14_len, tS15_len, tS16_len, tS17_len, tS18_len, tS19_len, tS20_len]; omega) hX2 dX6_writePlant_81 kMX6_301 (Nat.le_of_ble_eq_true rfl) (by decide) (fun h10 k10 u10 t10 => ?_)
  have t10 : TS G K w0 ((((((((([] ++ tS11) ++ [nI 32]) ++ numB z3) ++ [nI 32]) ++ numB z4) ++ [nI 59]) ++ tS12) ++ [nI 32]) ++ numB z5) _ X N _ _ := t10
  refine am_bipush (v := 59) dX6_writePlant_84 (by decide) ?_
  refine am_tsC (b := 59) t10 rfl (by decide) (by simp only [List.length_append, List.length_cons, List.length_nil, numB_len, tS11_len, tS12_len, tS13_len, tS14_len, tS15_len, tS16_len, tS17_len, tS18_len, tS19_len, tS20_len]; omega) hX2 dX6_writePlant_86 kMX6_298 (Nat.le_of_ble_eq_true rfl) (by decide) (fun h11 k11 u11 t11 => ?_)
  have t11 : TS G K w0 (((((((((([] ++ tS11) ++ [nI 32]) ++ numB z3) ++ [nI 32]) ++ numB z4) ++ [nI 59]) ++ tS12) ++ [nI 32]) ++ numB z5) ++ [nI 59]) _ X N _ _ := t11
  refine am_pop dX6_writePlant_89 rfl ?_
  refine am_aload_n dX6_writePlant_90 0 rfl ?_
  refine am_get dX6_writePlant_91 kGX6_26 (ts_c0 t11) rfl ?_
  refine am_ldcwS (j := 13) dX6_writePlant_94 rfl ?_
  refine am_tsS (j := 13) (qs := sq13) t11 rfl (by simp only [List.length_append, List.length_cons, List.length_nil, numB_len, tS11_len, tS12_len, tS13_len, tS14_len, tS15_len, tS16_len, tS17_len, tS18_len, tS19_len, tS20_len]; omega) hX2 dX6_writePlant_97 kMX6_294 (Nat.le_of_ble_eq_true rfl) (by decide) (fun h12 k12 u12 t12 => ?_)
  have t12 : TS G K w0 ((((((((((([] ++ tS11) ++ [nI 32]) ++ numB z3) ++ [nI 32]) ++ numB z4) ++ [nI 59]) ++ tS12) ++ [nI 32]) ++ numB z5) ++ [nI 59]) ++ tS13) _ X N _ _ := t12
  refine am_bipush (v := 32) dX6_writePlant_100 (by decide) ?_
  refine am_tsC (b := 32) t12 rfl (by decide) (by simp only [List.length_append, List.length_cons, List.length_nil, numB_len, tS11_len, tS12_len, tS13_len, tS14_len, tS15_len, tS16_len, tS17_len, tS18_len, tS19_len, tS20_len]; omega) hX2 dX6_writePlant_102 kMX6_298 (Nat.le_of_ble_eq_true rfl) (by decide) (fun h13 k13 u13 t13 => ?_)
  have t13 : TS G K w0 (((((((((((([] ++ tS11) ++ [nI 32]) ++ numB z3) ++ [nI 32]) ++ numB z4) ++ [nI 59]) ++ tS12) ++ [nI 32]) ++ numB z5) ++ [nI 59]) ++ tS13) ++ [nI 32]) _ X N _ _ := t13
  refine am_aload_n dX6_writePlant_105 0 rfl ?_
  refine am_get dX6_writePlant_106 kGX6_33 (ts_c0 t13) rfl ?_
  refine am_get dX6_writePlant_109 kGX6_308 (pl_0 (ts_P1 t13)) rfl ?_
  rw [e6]
  refine am_tsI (z := z6) t13 (l6) (by simp only [List.length_append, List.length_cons, List.length_nil, numB_len, tS11_len, tS12_len, tS13_len, tS14_len, tS15_len, tS16_len, tS17_len, tS18_len, tS19_len, tS20_len]; omega) hX2 dX6_writePlant_112 kMX6_301 (Nat.le_of_ble_eq_true rfl) (by decide) (fun h14 k14 u14 t14 => ?_)
  have t14 : TS G K w0 ((((((((((((([] ++ tS11) ++ [nI 32]) ++ numB z3) ++ [nI 32]) ++ numB z4) ++ [nI 59]) ++ tS12) ++ [nI 32]) ++ numB z5) ++ [nI 59]) ++ tS13) ++ [nI 32]) ++ numB z6) _ X N _ _ := t14
  refine am_bipush (v := 59) dX6_writePlant_115 (by decide) ?_
  refine am_tsC (b := 59) t14 rfl (by decide) (by simp only [List.length_append, List.length_cons, List.length_nil, numB_len, tS11_len, tS12_len, tS13_len, tS14_len, tS15_len, tS16_len, tS17_len, tS18_len, tS19_len, tS20_len]; omega) hX2 dX6_writePlant_117 kMX6_298 (Nat.le_of_ble_eq_true rfl) (by decide) (fun h15 k15 u15 t15 => ?_)
  have t15 : TS G K w0 (((((((((((((([] ++ tS11) ++ [nI 32]) ++ numB z3) ++ [nI 32]) ++ numB z4) ++ [nI 59]) ++ tS12) ++ [nI 32]) ++ numB z5) ++ [nI 59]) ++ tS13) ++ [nI 32]) ++ numB z6) ++ [nI 59]) _ X N _ _ := t15
  refine am_pop dX6_writePlant_120 rfl ?_
  have eT : hdB (w0.2.2.1 1) = (((((((((((((([] ++ tS11) ++ [nI 32]) ++ numB z3) ++ [nI 32]) ++ numB z4) ++ [nI 59]) ++ tS12) ++ [nI 32]) ++ numB z5) ++ [nI 59]) ++ tS13) ++ [nI 32]) ++ numB z6) ++ [nI 59]) := by unfold hdB; rw [e3, e4, e5, e6, nI_clamp (n := z3) (by omega), nI_clamp (n := z4) (by omega), nI_clamp (n := z5) (by omega), nI_clamp (n := z6) (by omega), List.nil_append]
  rw [← eT] at t15
  refine am_aload_n dX6_writePlant_121 0 rfl ?_
  refine am_aload_n dX6_writePlant_122 0 rfl ?_
  refine am_get dX6_writePlant_123 kGX6_33 (ts_c0 t15) rfl ?_
  refine am_get dX6_writePlant_126 kGX6_96 (pl_0 (ts_P1 t15)) rfl ?_
  refine am_tsV (L := ctB (w0.2.2.1 1) ny ns nz) (i := 0) (As := [.ref (gz G + (21 + 1))]) (rest := []) (d2 := 8) t15 (by omega) dX6_writePlant_129 kMX6_310 rfl (ts_c0 t15) rfl rfl (Nat.le_of_ble_eq_true rfl) (by decide) (Nat.le_of_ble_eq_true rfl) (fun m tm => ctX6_writeCatalogue tm (by omega) hc0 hn0 hz0 hc1 hn1 hz1 hc2 hn2 hz2) (fun hA kA uA tA => ?_)
  refine am_iconst (v := 0) dX6_writePlant_132 (by decide) ?_
  refine am_istore_n dX6_writePlant_133 (by decide) (lv' := [(1, .int 0), (0, .ref (gz G + 0))]) rfl ?_
  rw [← nI_0]
  refine wp_loop hX hc8 hn8 hz8 np 0 _ hA _ _ (by omega) tA (by rw [List.length_append]; omega) (fun hB kB uB tB => ?_)
  have tB' : TS G K w0 (wtB (w0.2.2.1 1) ny ns nz np) hB X N kB uB := tB
  refine am_aload_n dX6_writePlant_275 0 rfl ?_
  refine am_get dX6_writePlant_276 kGX6_26 (ts_c0 tB') rfl ?_
  obtain ⟨nB, tB1, -, -, -⟩ := id tB'
  obtain ⟨vB, fB, mlB, hbB, -⟩ := tb_sb tB1
  refine am_callV (As := []) (rest := []) dX6_writePlant_279 kMX6_323 rfl hbB.1 rfl rfl (Nat.le_of_ble_eq_true rfl) (d2 := 1) (by decide) (k2 := 0) (Nat.zero_le _) (u2 := 0) (Nat.zero_le _) (Nat.le_of_ble_eq_true rfl) (ctJ4_length hbB) (fun r9 h9 q9 => ?_)
  obtain ⟨rfl, rfl⟩ := q9
  exact am_ireturn dX6_writePlant_282 rfl rfl ⟨by rw [hXX], ts_end tB' (by omega)⟩
theorem dX6_outputByte_0 : decode cX6_outputByte 0 = .ok (.iload_n 1, 1) := by decide +kernel
theorem dX6_outputByte_1 : decode cX6_outputByte 1 = .ok (.ifCond .lt 14, 3) := by decide +kernel
theorem dX6_outputByte_15 : decode cX6_outputByte 15 = .ok (.iconst (-1), 1) := by decide +kernel
theorem dX6_outputByte_16 : decode cX6_outputByte 16 = .ok (.ireturn, 1) := by decide +kernel
set_option maxRecDepth 20000 in
theorem ctX6_outB1 {l : Launch} {G : GM} {K : Nat → Option va_E} {w0 : Wd} {h : List va_E} (hw : HW G K h w0) {v n C : Nat} {f : Nat → Int32} {ml : Int32} (hb : SBc G h v n C f ml) {z : Int32} (hz : z < 0) : Ct l G mX6_outputByte 4 0 0 [.ref (gz G + 0), .int z] h (fun r h1 => r = some (.int (-1)) ∧ h1 = h) := by
  show Tr l G mX6_outputByte 4 0 0 0 [(0, .ref (gz G + 0)), (1, .int z)] [] h _
  refine am_iload_n dX6_outputByte_0 1 rfl ?_
  refine am_if_lt dX6_outputByte_1 (by decide : ((1 : Nat) : Int) + (14) = ((15 : Nat) : Int)) (fun _ => ?_) (fun zq => absurd hz zq)
  refine am_iconst (v := (-1)) dX6_outputByte_15 (by decide) ?_
  exact am_ireturn dX6_outputByte_16 rfl rfl ⟨rfl, rfl⟩
theorem dX6_outputByte_4 : decode cX6_outputByte 4 = .ok (.iload_n 1, 1) := by decide +kernel
theorem dX6_outputByte_5 : decode cX6_outputByte 5 = .ok (.aload_n 0, 1) := by decide +kernel
theorem dX6_outputByte_6 : decode cX6_outputByte 6 = .ok (.getfield 26, 3) := by decide +kernel
theorem dX6_outputByte_9 : decode cX6_outputByte 9 = .ok (.invokevirtual 323, 3) := by decide +kernel
theorem dX6_outputByte_12 : decode cX6_outputByte 12 = .ok (.if_icmp .lt 5, 3) := by decide +kernel
set_option maxRecDepth 20000 in
theorem ctX6_outB2 {l : Launch} {G : GM} {K : Nat → Option va_E} {w0 : Wd} {h : List va_E} (hw : HW G K h w0) {v n C : Nat} {f : Nat → Int32} {ml : Int32} (hb : SBc G h v n C f ml) {z : Int32} (hz : ¬ z < 0) (hc : ¬ z < nI C) : Ct l G mX6_outputByte 4 0 0 [.ref (gz G + 0), .int z] h (fun r h1 => r = some (.int (-1)) ∧ h1 = h) := by
  show Tr l G mX6_outputByte 4 0 0 0 [(0, .ref (gz G + 0)), (1, .int z)] [] h _
  refine am_iload_n dX6_outputByte_0 1 rfl ?_
  refine am_if_lt dX6_outputByte_1 (by decide : ((1 : Nat) : Int) + (14) = ((15 : Nat) : Int)) (fun zq => absurd zq hz) (fun _ => ?_)
  refine am_iload_n dX6_outputByte_4 1 rfl ?_
  refine am_aload_n dX6_outputByte_5 0 rfl ?_
  refine am_get dX6_outputByte_6 kGX6_26 (hwc0 hw) rfl ?_
  refine am_callV (As := []) (rest := [.int z]) dX6_outputByte_9 kMX6_323 rfl hb.1 rfl rfl (Nat.le_of_ble_eq_true rfl) (d2 := 1) (by decide) (k2 := 0) (Nat.zero_le _) (u2 := 0) (Nat.zero_le _) (Nat.le_of_ble_eq_true rfl) (ctJ4_length hb) (fun r9 h9 q9 => ?_)
  obtain ⟨rfl, rfl⟩ := q9
  refine am_icmp_lt dX6_outputByte_12 (by decide : ((12 : Nat) : Int) + (5) = ((17 : Nat) : Int)) (fun zq => absurd zq hc) (fun _ => ?_)
  refine am_iconst (v := (-1)) dX6_outputByte_15 (by decide) ?_
  exact am_ireturn dX6_outputByte_16 rfl rfl ⟨rfl, rfl⟩
theorem dX6_outputByte_17 : decode cX6_outputByte 17 = .ok (.aload_n 0, 1) := by decide +kernel
theorem dX6_outputByte_18 : decode cX6_outputByte 18 = .ok (.getfield 26, 3) := by decide +kernel
theorem dX6_outputByte_21 : decode cX6_outputByte 21 = .ok (.iload_n 1, 1) := by decide +kernel
theorem dX6_outputByte_22 : decode cX6_outputByte 22 = .ok (.invokevirtual 326, 3) := by decide +kernel
theorem dX6_outputByte_25 : decode cX6_outputByte 25 = .ok (.ireturn, 1) := by decide +kernel
set_option maxRecDepth 20000 in
theorem ctX6_outB3 {l : Launch} {G : GM} {K : Nat → Option va_E} {w0 : Wd} {h : List va_E} (hw : HW G K h w0) {v n C : Nat} {f : Nat → Int32} {ml : Int32} (hb : SBc G h v n C f ml) {i b : Nat} (hz : ¬ nI i < 0) (hc : nI i < nI C) (hi : i < C) (hf : f i = nI b) (hb8 : b < 128) : Ct l G mX6_outputByte 4 0 0 [.ref (gz G + 0), .int (nI i)] h (fun r h1 => r = some (.int (nI b)) ∧ h1 = h) := by
  show Tr l G mX6_outputByte 4 0 0 0 [(0, .ref (gz G + 0)), (1, .int (nI i))] [] h _
  refine am_iload_n dX6_outputByte_0 1 rfl ?_
  refine am_if_lt dX6_outputByte_1 (by decide : ((1 : Nat) : Int) + (14) = ((15 : Nat) : Int)) (fun zq => absurd zq hz) (fun _ => ?_)
  refine am_iload_n dX6_outputByte_4 1 rfl ?_
  refine am_aload_n dX6_outputByte_5 0 rfl ?_
  refine am_get dX6_outputByte_6 kGX6_26 (hwc0 hw) rfl ?_
  refine am_callV (As := []) (rest := [.int (nI i)]) dX6_outputByte_9 kMX6_323 rfl hb.1 rfl rfl (Nat.le_of_ble_eq_true rfl) (d2 := 1) (by decide) (k2 := 0) (Nat.zero_le _) (u2 := 0) (Nat.zero_le _) (Nat.le_of_ble_eq_true rfl) (ctJ4_length hb) (fun r9 h9 q9 => ?_)
  obtain ⟨rfl, rfl⟩ := q9
  refine am_icmp_lt dX6_outputByte_12 (by decide : ((12 : Nat) : Int) + (5) = ((17 : Nat) : Int)) (fun _ => ?_) (fun zq => absurd hc zq)
  refine am_aload_n dX6_outputByte_17 0 rfl ?_
  refine am_get dX6_outputByte_18 kGX6_26 (hwc0 hw) rfl ?_
  refine am_iload_n dX6_outputByte_21 1 rfl ?_
  refine am_callV (As := [.int (nI i)]) (rest := []) dX6_outputByte_22 kMX6_326 rfl hb.1 rfl rfl (Nat.le_of_ble_eq_true rfl) (d2 := 3) (by decide) (k2 := 0) (Nat.zero_le _) (u2 := 0) (Nat.zero_le _) (Nat.le_of_ble_eq_true rfl) (ctJ4_charAt hb hi hf hb8) (fun r9 h9 q9 => ?_)
  obtain ⟨rfl, rfl⟩ := q9
  exact am_ireturn dX6_outputByte_25 rfl rfl ⟨rfl, rfl⟩
