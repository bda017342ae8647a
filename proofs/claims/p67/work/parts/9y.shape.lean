/-! The law: the best shape. -/
/-- how many pairs a plant with the row f has -/
noncomputable def kF (f : Nat → Int32) (np : Nat) : Nat := @dite Nat (∃ K, K ≤ 7 ∧ KF f np K) (Classical.propDecidable _) (fun h => Classical.choose h) (fun _ => 0)
theorem kF_7 (f : Nat → Int32) (np : Nat) : kF f np ≤ 7 := by
  by_cases h : ∃ K, K ≤ 7 ∧ KF f np K
  · unfold kF
    rw [dif_pos h]
    exact (Classical.choose_spec h).1
  · unfold kF
    rw [dif_neg h]
    exact Nat.zero_le _
theorem kF_ok {p : Pl} {f : Nat → Int32} {ny ns nz np : Nat} (hP : hz_PR p f ny ns nz np) : KF f np (kF f np) := by
  have h : ∃ K, K ≤ 7 ∧ KF f np K := ⟨kp p np, (kp_K hP).1, kf_i hP⟩
  unfold kF
  rw [dif_pos h]
  exact (Classical.choose_spec h).2
/-- an object with the drawn plant, changed to the row f -/
abbrev CD (G : GM) (n : Nat) (w : Wd) (f : Nat → Int32) : Prop := CI n w f (1 + dw G 2 2) (1 + dw G 1 3) 2 (dw G 0 9)
theorem rd_2 (G : GM) : rwD G 2 = nI (stD G) := rfl
theorem rd_w (G : GM) : RW (rwD G) (dw G 0 9) := rw_raw (vt_ps G)
theorem rw_u {f : Nat → Int32} {np k : Nat} {v : Int32} (h : RW f np) (hk : k < 67) : RW (upd f k v) np := fun i hi => by
  unfold upd
  rw [if_neg (by omega)]
  exact h i hi
section LAW
variable {l : Launch} {G : GM} {d : Nat} {Q : Option Value → List va_E → Prop}
theorem dL_law_226 : decode cL_law 226 = .ok (.iload 7, 2) := by decide +kernel
theorem dL_law_228 : decode cL_law 228 = .ok (.aload_n 0, 1) := by decide +kernel
theorem dL_law_229 : decode cL_law 229 = .ok (.invokestatic 83, 3) := by decide +kernel
theorem dL_law_232 : decode cL_law 232 = .ok (.if_icmp .ge 59, 3) := by decide +kernel
theorem dL_law_235 : decode cL_law 235 = .ok (.aload_n 1, 1) := by decide +kernel
theorem dL_law_236 : decode cL_law 236 = .ok (.iload 7, 2) := by decide +kernel
theorem dL_law_238 : decode cL_law 238 = .ok (.invokevirtual 187, 3) := by decide +kernel
theorem dL_law_241 : decode cL_law 241 = .ok (.istore 8, 2) := by decide +kernel
theorem dL_law_243 : decode cL_law 243 = .ok (.iload 8, 2) := by decide +kernel
theorem dL_law_245 : decode cL_law 245 = .ok (.aload_n 1, 1) := by decide +kernel
theorem dL_law_246 : decode cL_law 246 = .ok (.iload 7, 2) := by decide +kernel
theorem dL_law_248 : decode cL_law 248 = .ok (.invokestatic 190, 3) := by decide +kernel
theorem dL_law_251 : decode cL_law 251 = .ok (.if_icmp .ne 32, 3) := by decide +kernel
theorem dL_law_254 : decode cL_law 254 = .ok (.iload 8, 2) := by decide +kernel
theorem dL_law_256 : decode cL_law 256 = .ok (.aload_n 1, 1) := by decide +kernel
theorem dL_law_257 : decode cL_law 257 = .ok (.iload 6, 2) := by decide +kernel
theorem dL_law_259 : decode cL_law 259 = .ok (.invokevirtual 187, 3) := by decide +kernel
theorem dL_law_262 : decode cL_law 262 = .ok (.if_icmp .gt 21, 3) := by decide +kernel
theorem dL_law_265 : decode cL_law 265 = .ok (.iload 8, 2) := by decide +kernel
theorem dL_law_267 : decode cL_law 267 = .ok (.aload_n 1, 1) := by decide +kernel
theorem dL_law_268 : decode cL_law 268 = .ok (.iload 6, 2) := by decide +kernel
theorem dL_law_270 : decode cL_law 270 = .ok (.invokevirtual 187, 3) := by decide +kernel
theorem dL_law_273 : decode cL_law 273 = .ok (.if_icmp .ne 12, 3) := by decide +kernel
theorem dL_law_276 : decode cL_law 276 = .ok (.iload 7, 2) := by decide +kernel
theorem dL_law_278 : decode cL_law 278 = .ok (.iload 6, 2) := by decide +kernel
theorem dL_law_280 : decode cL_law 280 = .ok (.if_icmp .ge 5, 3) := by decide +kernel
theorem dL_law_285 : decode cL_law 285 = .ok (.iinc 7 1, 3) := by decide +kernel
theorem dL_law_288 : decode cL_law 288 = .ok (.goto (-62), 3) := by decide +kernel
set_option maxRecDepth 20000 in
theorem sg_Dl (hL : gL G ≤ 260) {k0 u0 a b bs sh : Nat} (hd : 23 ≤ d) (A : am (fun s => kF (gBx (rwD G) s) (dw G 0 9)) (1 + dw G 1 3) bs) : ∀ (r k : Nat), k + r = 1 + dw G 1 3 → ∀ (h : List va_E) (w : Wd), OB G h 0 w → CD G (2 + 4 * k) w (rwD G) → (∀ h1 w1, OB G h1 0 w1 → CD G (2 + 4 * (1 + dw G 1 3)) w1 (rwD G) → Tr l G mL_law d k0 u0 291 [(7, .int (nI (1 + dw G 1 3))), (6, .int (nI bs)), (5, .int (nI sh)), (4, .ref a), (3, .ref b), (2, .int (nI (dw G 0 9))), (1, .ref (gz G + 0)), (0, .ref (gB G))] [] h1 Q) → Tr l G mL_law d k0 u0 226 [(7, .int (nI k)), (6, .int (nI bs)), (5, .int (nI sh)), (4, .ref a), (3, .ref b), (2, .int (nI (dw G 0 9))), (1, .ref (gz G + 0)), (0, .ref (gB G))] [] h Q := by
  have n1 := dw_lt G 1 (n := 3) (by decide)
  intro r
  induction r with
  | zero =>
    intro k hk h w o C kk
    refine am_iload dL_law_226 0 rfl ?_
    refine am_aload_n dL_law_228 7 rfl ?_
    refine am_callS (As := [.ref (gB G)]) (rest := [.int (nI k)]) dL_law_229 kML_83 rfl rfl (Nat.le_of_ble_eq_true rfl) (d2 := 1) (by omega) (k2 := 0) (Nat.zero_le _) (u2 := 0) (Nat.zero_le _) (Nat.le_of_ble_eq_true rfl) (ctL_shapes hL) (fun r1 h1 q3 => ?_)
    obtain ⟨rfl, rfl⟩ := q3
    refine am_icmp_ge dL_law_232 (by decide : ((232 : Nat) : Int) + (59) = ((291 : Nat) : Int)) (fun _ => ?_) (fun zq => absurd (by rw [nI_leI (by omega) (by omega)]; omega) zq)
    have ek : k = 1 + dw G 1 3 := by omega
    subst ek
    exact kk _ w o C
  | succ r ih =>
    intro k hk h w o C kk
    refine am_iload dL_law_226 0 rfl ?_
    refine am_aload_n dL_law_228 7 rfl ?_
    refine am_callS (As := [.ref (gB G)]) (rest := [.int (nI k)]) dL_law_229 kML_83 rfl rfl (Nat.le_of_ble_eq_true rfl) (d2 := 1) (by omega) (k2 := 0) (Nat.zero_le _) (u2 := 0) (Nat.zero_le _) (Nat.le_of_ble_eq_true rfl) (ctL_shapes hL) (fun r1 h1 q3 => ?_)
    obtain ⟨rfl, rfl⟩ := q3
    refine am_icmp_ge dL_law_232 (by decide : ((232 : Nat) : Int) + (59) = ((291 : Nat) : Int)) (fun zq => absurd zq (nI_ge (by omega) (by omega))) (fun _ => ?_)
    have hk : k < 1 + dw G 1 3 := by omega
    have sg := stD_le G
    have hKk := kF_ok (b_pr C.1 hk)
    have hKb := kF_ok (b_pr C.1 A.1)
    have k7 := kF_7 (gBx (rwD G) k) (dw G 0 9)
    have b7 := kF_7 (gBx (rwD G) bs) (dw G 0 9)
    obtain ⟨w1, e1, -, C1, -⟩ := o_ia C (by omega) hk sg (rd_2 G) hKk
    refine am_aload_n dL_law_235 6 rfl ?_
    refine am_iload dL_law_236 0 rfl ?_
    have hc := om_ifAllBoarded (l := l) o (nI k)
    rw [e1] at hc
    obtain ⟨fs, hfs⟩ := ob_cell o
    refine mm_callV (As := [.int (nI k)]) (rest := []) dL_law_238 kML_187 rfl hfs rfl rfl (Nat.le_of_ble_eq_true rfl) (d2 := 20) (by omega) (k2 := 0) (Nat.zero_le _) (u2 := 0) (Nat.zero_le _) (hc) (fun r1 h1 q3 => ?_)
    obtain ⟨rfl, o1, g1⟩ := q3
    refine am_istore dL_law_241 (by decide) (lv' := [(8, .int (nI (kF (gBx (rwD G) k) (dw G 0 9)))), (7, .int (nI k)), (6, .int (nI bs)), (5, .int (nI sh)), (4, .ref a), (3, .ref b), (2, .int (nI (dw G 0 9))), (1, .ref (gz G + 0)), (0, .ref (gB G))]) rfl ?_
    refine am_iload dL_law_243 0 rfl ?_
    refine am_aload_n dL_law_245 7 rfl ?_
    refine am_iload dL_law_246 1 rfl ?_
    refine am_callS (As := [.ref (gz G + 0), .int (nI k)]) (rest := [.int (nI (kF (gBx (rwD G) k) (dw G 0 9)))]) dL_law_248 kML_190 rfl rfl (Nat.le_of_ble_eq_true rfl) (d2 := 22) (by omega) (k2 := 0) (Nat.zero_le _) (u2 := 0) (Nat.zero_le _) (Nat.le_of_ble_eq_true rfl) (ctL_tried o1 C1 (by omega) (rd_w G) hk hKk) (fun r1 h2 q3 => ?_)
    obtain ⟨rfl, w2, o2, -, C2⟩ := q3
    refine am_icmp_ne dL_law_251 (by decide : ((251 : Nat) : Int) + (32) = ((283 : Nat) : Int)) (fun zq => absurd zq (fun z => z rfl)) (fun _ => ?_)
    obtain ⟨w3, e3, -, C3, -⟩ := o_ia C2 (by omega) A.1 sg (rd_2 G) hKb
    refine am_iload dL_law_254 0 rfl ?_
    refine am_aload_n dL_law_256 7 rfl ?_
    refine am_iload dL_law_257 2 rfl ?_
    have hc := om_ifAllBoarded (l := l) o2 (nI bs)
    rw [e3] at hc
    obtain ⟨fs, hfs⟩ := ob_cell o2
    refine mm_callV (As := [.int (nI bs)]) (rest := [.int (nI (kF (gBx (rwD G) k) (dw G 0 9)))]) dL_law_259 kML_187 rfl hfs rfl rfl (Nat.le_of_ble_eq_true rfl) (d2 := 20) (by omega) (k2 := 0) (Nat.zero_le _) (u2 := 0) (Nat.zero_le _) (hc) (fun r1 h3 q3 => ?_)
    obtain ⟨rfl, o3, g3⟩ := q3
    refine am_icmp_gt dL_law_262 (by decide : ((262 : Nat) : Int) + (21) = ((283 : Nat) : Int)) (fun zq => absurd zq (nI_nlt (A.2 k hk).1 (by omega))) (fun _ => ?_)
    obtain ⟨w4, e4, -, C4, -⟩ := o_ia C3 (by omega) A.1 sg (rd_2 G) hKb
    refine am_iload dL_law_265 0 rfl ?_
    refine am_aload_n dL_law_267 7 rfl ?_
    refine am_iload dL_law_268 2 rfl ?_
    have hc := om_ifAllBoarded (l := l) o3 (nI bs)
    rw [e4] at hc
    obtain ⟨fs, hfs⟩ := ob_cell o3
    refine mm_callV (As := [.int (nI bs)]) (rest := [.int (nI (kF (gBx (rwD G) k) (dw G 0 9)))]) dL_law_270 kML_187 rfl hfs rfl rfl (Nat.le_of_ble_eq_true rfl) (d2 := 20) (by omega) (k2 := 0) (Nat.zero_le _) (u2 := 0) (Nat.zero_le _) (hc) (fun r1 h4 q3 => ?_)
    obtain ⟨rfl, o4, g4⟩ := q3
    have hbs := A.1
    by_cases ce : kF (gBx (rwD G) k) (dw G 0 9) = kF (gBx (rwD G) bs) (dw G 0 9)
    · refine am_icmp_ne dL_law_273 (by decide : ((273 : Nat) : Int) + (12) = ((285 : Nat) : Int)) (fun zq => absurd zq (fun z => z (by rw [ce]))) (fun _ => ?_)
      refine am_iload dL_law_276 1 rfl ?_
      refine am_iload dL_law_278 2 rfl ?_
      refine am_icmp_ge dL_law_280 (by decide : ((280 : Nat) : Int) + (5) = ((285 : Nat) : Int)) (fun _ => ?_) (fun zq => absurd (nI_le ((A.2 k hk).2 ce) (by omega)) zq)
      refine am_iinc (v := (nI (k + 1))) dL_law_285 1 rfl (nI_1 k) (by decide) (lv' := [(7, .int (nI (k + 1))), (8, .int (nI (kF (gBx (rwD G) k) (dw G 0 9)))), (6, .int (nI bs)), (5, .int (nI sh)), (4, .ref a), (3, .ref b), (2, .int (nI (dw G 0 9))), (1, .ref (gz G + 0)), (0, .ref (gB G))]) rfl ?_
      refine am_goto dL_law_288 (by decide : ((288 : Nat) : Int) + (-62) = ((226 : Nat) : Int)) ?_
      refine am_lv [0, 2, 3, 4, 5, 6, 7, 8] rfl ?_
      exact ih (k + 1) (by omega) _ w4 o4 (ci_up C4 (by omega)) kk
    · refine am_icmp_ne dL_law_273 (by decide : ((273 : Nat) : Int) + (12) = ((285 : Nat) : Int)) (fun _ => ?_) (fun zq => absurd zq (fun z => ce ((nI_eq (by omega) (by omega)).mp z)))
      refine am_iinc (v := (nI (k + 1))) dL_law_285 1 rfl (nI_1 k) (by decide) (lv' := [(7, .int (nI (k + 1))), (8, .int (nI (kF (gBx (rwD G) k) (dw G 0 9)))), (6, .int (nI bs)), (5, .int (nI sh)), (4, .ref a), (3, .ref b), (2, .int (nI (dw G 0 9))), (1, .ref (gz G + 0)), (0, .ref (gB G))]) rfl ?_
      refine am_goto dL_law_288 (by decide : ((288 : Nat) : Int) + (-62) = ((226 : Nat) : Int)) ?_
      refine am_lv [0, 2, 3, 4, 5, 6, 7, 8] rfl ?_
      exact ih (k + 1) (by omega) _ w4 o4 (ci_up C4 (by omega)) kk
theorem dL_law_205 : decode cL_law 205 = .ok (.aload_n 0, 1) := by decide +kernel
theorem dL_law_206 : decode cL_law 206 = .ok (.bipush 20, 2) := by decide +kernel
theorem dL_law_208 : decode cL_law 208 = .ok (.aload_n 0, 1) := by decide +kernel
theorem dL_law_209 : decode cL_law 209 = .ok (.invokestatic 83, 3) := by decide +kernel
theorem dL_law_212 : decode cL_law 212 = .ok (.invokestatic 34, 3) := by decide +kernel
theorem dL_law_215 : decode cL_law 215 = .ok (.istore 5, 2) := by decide +kernel
theorem dL_law_217 : decode cL_law 217 = .ok (.aload_n 1, 1) := by decide +kernel
theorem dL_law_218 : decode cL_law 218 = .ok (.invokevirtual 184, 3) := by decide +kernel
theorem dL_law_221 : decode cL_law 221 = .ok (.istore 6, 2) := by decide +kernel
theorem dL_law_223 : decode cL_law 223 = .ok (.iconst 0, 1) := by decide +kernel
theorem dL_law_224 : decode cL_law 224 = .ok (.istore 7, 2) := by decide +kernel
set_option maxRecDepth 20000 in
theorem sg_D (hL : gL G ≤ 260) {k0 u0 a b : Nat} {h : List va_E} {w : Wd} (hd : 23 ≤ d) (o : OB G h 0 w) (D : LD G 0 w) (kk : ∀ h1 w1 k7 bs, OB G h1 0 w1 → CD G 14 w1 (rwD G) → Tr l G mL_law d k0 u0 291 [(7, .int k7), (6, .int bs), (5, .int (nI (dw G 20 (1 + dw G 1 3)))), (4, .ref a), (3, .ref b), (2, .int (nI (dw G 0 9))), (1, .ref (gz G + 0)), (0, .ref (gB G))] [] h1 Q) : Tr l G mL_law d k0 u0 205 [(4, .ref a), (3, .ref b), (2, .int (nI (dw G 0 9))), (1, .ref (gz G + 0)), (0, .ref (gB G))] [] h Q := by
  have n1 := dw_lt G 1 (n := 3) (by decide)
  have hsh := dw_lt G 20 (n := 1 + dw G 1 3) (by omega)
  have sg := stD_le G
  refine am_aload_n dL_law_205 4 rfl ?_
  refine am_bipush (v := 20) dL_law_206 (by decide) ?_
  refine am_aload_n dL_law_208 4 rfl ?_
  refine am_callS (As := [.ref (gB G)]) (rest := [.int (nI 20), .ref (gB G)]) dL_law_209 kML_83 rfl rfl (Nat.le_of_ble_eq_true rfl) (d2 := 1) (by omega) (k2 := 0) (Nat.zero_le _) (u2 := 0) (Nat.zero_le _) (Nat.le_of_ble_eq_true rfl) (ctL_shapes hL) (fun r1 h1 q3 => ?_)
  obtain ⟨rfl, rfl⟩ := q3
  refine am_callS (As := [.ref (gB G), .int (nI 20), .int (nI (1 + dw G 1 3))]) (rest := []) dL_law_212 kML_34 rfl rfl (Nat.le_of_ble_eq_true rfl) (d2 := 0) (by omega) (k2 := 0) (Nat.zero_le _) (u2 := 0) (Nat.zero_le _) (Nat.le_of_ble_eq_true rfl) (ctL_draw (k := 20) (n := 1 + dw G 1 3) hL (by omega) (by omega) (by omega)) (fun r1 h1 q3 => ?_)
  obtain ⟨rfl, rfl⟩ := q3
  refine am_istore dL_law_215 (by decide) (lv' := [(5, .int (nI (dw G 20 (1 + dw G 1 3)))), (4, .ref a), (3, .ref b), (2, .int (nI (dw G 0 9))), (1, .ref (gz G + 0)), (0, .ref (gB G))]) rfl ?_
  obtain ⟨bs, w1, e1, A, C1, -⟩ := o_bs D.1 (by omega) (by omega) sg (rd_2 G) (K := fun s => kF (gBx (rwD G) s) (dw G 0 9)) (fun s hs => kF_ok (b_pr D.1.1 hs)) (fun s => by have := kF_7 (gBx (rwD G) s) (dw G 0 9); omega)
  refine am_aload_n dL_law_217 4 rfl ?_
  have hc := om_bestShape (l := l) o
  rw [e1] at hc
  obtain ⟨fs, hfs⟩ := ob_cell o
  refine mm_callV (As := []) (rest := []) dL_law_218 kML_184 rfl hfs rfl rfl (Nat.le_of_ble_eq_true rfl) (d2 := 20) (by omega) (k2 := 0) (Nat.zero_le _) (u2 := 0) (Nat.zero_le _) (hc) (fun r1 h1 q3 => ?_)
  obtain ⟨rfl, o1, g1⟩ := q3
  refine am_istore dL_law_221 (by decide) (lv' := [(6, .int (nI bs)), (5, .int (nI (dw G 20 (1 + dw G 1 3)))), (4, .ref a), (3, .ref b), (2, .int (nI (dw G 0 9))), (1, .ref (gz G + 0)), (0, .ref (gB G))]) rfl ?_
  refine am_iconst (v := 0) dL_law_223 (by decide) ?_
  refine am_istore dL_law_224 (by decide) (lv' := [(7, .int 0), (6, .int (nI bs)), (5, .int (nI (dw G 20 (1 + dw G 1 3)))), (4, .ref a), (3, .ref b), (2, .int (nI (dw G 0 9))), (1, .ref (gz G + 0)), (0, .ref (gB G))]) rfl ?_
  exact sg_Dl hL hd A (1 + dw G 1 3) 0 (Nat.zero_add _) _ w1 o1 (ci_up C1 (by omega)) (fun h2 w2 o2 C2 => kk h2 w2 _ _ o2 (ci_up C2 (by omega)))
end LAW
