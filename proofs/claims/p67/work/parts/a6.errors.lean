/-! The law: texts that fail, on a fourth object. -/
theorem tc_cat {T S : List Int32} (a : TC T) (b : TC S) : TC (T ++ S) := fun c hc => by
  rcases List.mem_append.mp hc with h | h
  · exact a c h
  · exact b c h
theorem tc_37 : TC sq37.2.2.2 := by unfold TC; decide +kernel
/-- the law's locals there: the text in common, the object -/
abbrev lvR (G : GM) (B : Nat) : List (Nat × Value) := [(22, .ref (gS G 37)), (21, .ref (gz G + B))]
section LAW
variable {l : Launch} {G : GM} {d : Nat} {Q : Option Value → List va_E → Prop}
theorem cat_A {k0 u0 pc B : Nat} {h : List va_E} {w : Wd} (hd : 23 ≤ d) (o : OB G h B w) (e0 : decode cL_law pc = .ok (.new 42, 3)) (e1 : decode cL_law (pc + 3) = .ok (.dup, 1)) (e2 : decode cL_law (pc + 4) = .ok (.invokespecial 44, 3)) (e3 : decode cL_law (pc + 7) = .ok (.aload 22, 2)) (e4 : decode cL_law (pc + 9) = .ok (.invokevirtual 47, 3)) (kk : ∀ h1 Bb, h.length = Bb + 19 → BL G h1 Bb sq37.2.2.2 → h.length ≤ h1.length → (∀ a, a < h.length → h1[a]? = h[a]?) → Tr l G mL_law d k0 u0 (pc + 12) (lvR G B) [.ref (gz G + (Bb + 19)), .ref (gz G + B)] h1 Q) : Tr l G mL_law d (k0 + 3) (u0 + 2020) pc (lvR G B) [.ref (gz G + B)] h Q := by
  obtain ⟨l1, l2, l3⟩ := ob_len o
  obtain ⟨Bb, hBb⟩ : ∃ Bb, h.length = Bb + 19 := ⟨h.length - 19, by omega⟩
  refine am_newL (n := Bb + 19) hBb (k1 := k0 + 2) (u1 := u0 + 2016) e0 kNL_42 (by omega) (by omega) ?_
  have x1 : (h ++ [(.inr (0, [.null, .int 0, .int 0, .int 0]) : va_E)])[Bb + 19]? = some (.inr (0, [.null, .int 0, .int 0, .int 0])) := hs_newc hBb
  have x2 : (h ++ [(.inr (0, [.null, .int 0, .int 0, .int 0]) : va_E)]).length = Bb + 20 := by rw [List.length_append, hBb]; rfl
  refine am_dup e1 rfl ?_
  refine mm_callI (As := []) (rest := [.ref (gz G + (Bb + 19)), .ref (gz G + B)]) e2 kML_44 rfl rfl (Nat.le_of_ble_eq_true rfl) (d2 := 2) (by omega) (k2 := 1) (by omega) (u2 := 16) (by omega) (bl_init x2 x1) (fun r1 h2 q3 => ?_)
  obtain ⟨rfl, b2, f2⟩ := q3
  have kp2 : ∀ a, a < h.length → h2[a]? = h[a]? := fun a ha => by rw [f2.2 a (by omega), List.getElem?_append_left ha]
  have le2 : h.length ≤ h2.length := by have := f2.1; omega
  refine am_aload e3 0 rfl ?_
  refine bl_S (q := sq37) (rest := [.ref (gz G + B)]) (t := 0) (s := 12) (k1 := k0) (u1 := u0) e4 kML_47 b2 rfl (Nat.le_of_ble_eq_true rfl) (Nat.le_of_ble_eq_true rfl) (by omega) (Nat.le_of_ble_eq_true rfl) (by omega) (by omega) (by omega) (fun h3 b3 t3 f3 => ?_)
  exact kk h3 Bb hBb b3 (by have := f3.1; omega) (fun a ha => by rw [f3.2 a (by omega), kp2 a ha])
theorem cat_B {k0 u0 pc B Bb j : Nat} {h h1 : List va_E} {q : String × Nat × String × List Int32} {w : Wd} (hd : 23 ≤ d) (o : OB G h B w) (hB : h.length = Bb + 19) (b : BL G h1 Bb sq37.2.2.2) (hl : h.length ≤ h1.length) (hk : ∀ a, a < h.length → h1[a]? = h[a]?) (hj : strTab[j]? = some q) (hq : q.2.2.2.length ≤ 100) (e0 : decode cL_law pc = .ok (.invokevirtual 47, 3)) (e1 : decode cL_law (pc + 3) = .ok (.invokevirtual 64, 3)) (kk : ∀ h2 si, OB G h2 B w → StO G h2 B w (gz G + si) (sq37.2.2.2 ++ q.2.2.2) → Tr l G mL_law d k0 u0 (pc + 6) (lvR G B) [.ref (gz G + si), .ref (gz G + B)] h2 Q) : Tr l G mL_law d (k0 + 3) (u0 + 2120) pc (lvR G B) [.ref (gS G j), .ref (gz G + (Bb + 19)), .ref (gz G + B)] h1 Q := by
  refine bl_S (q := q) (rest := [.ref (gz G + B)]) (t := 12) (s := 100) (k1 := k0 + 2) (u1 := u0 + 120) e0 kML_47 b hj (Nat.le_of_ble_eq_true rfl) hq (by omega) (Nat.le_of_ble_eq_true rfl) (by omega) (by omega) (by omega) (fun h2 b2 t2 f2 => ?_)
  obtain ⟨fs2, hcb⟩ := bl_cell b2
  generalize sq37.2.2.2 ++ q.2.2.2 = T at *
  refine mm_callV (As := []) (rest := [.ref (gz G + B)]) (i := Bb + 19) e1 kML_64 rfl hcb rfl rfl (Nat.le_of_ble_eq_true rfl) (d2 := 5) (by omega) (k2 := 2) (by omega) (u2 := 4 + T.length) (by omega) (bl_toStr b2) (fun r1 h3 q3 => ?_)
  obtain ⟨rfl, s1, s2, s3⟩ := q3
  have kp3 : ∀ a, a < h.length → h3[a]? = h[a]? := fun a ha => by rw [s3 a (by have := f2.1; omega), f2.2 a (by omega), hk a ha]
  have le3 : h.length ≤ h3.length := by have := f2.1; omega
  exact am_room (kk h3 h2.length (ob_kp o le3 kp3) (st_sd (lo := h2.length) o (by have := f2.1; omega) s1)) (by omega) (by omega)
theorem fl_1 {k0 u0 pc B v n : Nat} {c p c1 p1 : Int32} {T : List Int32} {h : List va_E} {w : Wd} (hd : 23 ≤ d) (o : OB G h B w) (E : ER n w c p) (s : StO G h B w v T) (t : TC T) (hl : T.length ≤ 1100) (hp : 0 < T.length) (hk : mOk (fX7_load (mTx T c p)) c1 p1 = true) (e0 : decode cL_law pc = .ok (.invokestatic 256, 3)) (kk : ∀ h1 w1, OB G h1 B w1 → ER (n + 1) w1 c1 p1 → Tr l G mL_law d k0 u0 (pc + 3) (lvR G B) [.int 1] h1 Q) : Tr l G mL_law d k0 u0 pc (lvR G B) [.int p1, .int c1, .ref v, .ref (gz G + B)] h Q := by
  refine am_callS (As := [.ref (gz G + B), .ref v, .int c1, .int p1]) (rest := []) e0 kML_256 rfl rfl (Nat.le_of_ble_eq_true rfl) (d2 := 10) (by omega) (k2 := 0) (Nat.zero_le _) (u2 := 0) (Nat.zero_le _) (Nat.le_of_ble_eq_true rfl) (ctL_fails E o s (tc_ta t) hl hp hk) (fun r1 h1 q3 => ?_)
  obtain ⟨rfl, w1, o1, -, E1⟩ := q3
  exact kk h1 w1 o1 E1
theorem dL_law_1230 : decode cL_law 1230 = .ok (.new 25, 3) := by decide +kernel
theorem dL_law_1233 : decode cL_law 1233 = .ok (.dup, 1) := by decide +kernel
theorem dL_law_1234 : decode cL_law 1234 = .ok (.invokespecial 159, 3) := by decide +kernel
theorem dL_law_1237 : decode cL_law 1237 = .ok (.astore 21, 2) := by decide +kernel
theorem dL_law_1239 : decode cL_law 1239 = .ok (.ldc 252, 2) := by decide +kernel
theorem dL_law_1241 : decode cL_law 1241 = .ok (.astore 22, 2) := by decide +kernel
theorem dL_law_1243 : decode cL_law 1243 = .ok (.aload 21, 2) := by decide +kernel
theorem dL_law_1245 : decode cL_law 1245 = .ok (.ldc 254, 2) := by decide +kernel
theorem dL_law_1247 : decode cL_law 1247 = .ok (.iconst 2, 1) := by decide +kernel
theorem dL_law_1248 : decode cL_law 1248 = .ok (.bipush 10, 2) := by decide +kernel
theorem dL_law_1250 : decode cL_law 1250 = .ok (.invokestatic 256, 3) := by decide +kernel
theorem dL_law_1253 : decode cL_law 1253 = .ok (.ifCond .eq 139, 3) := by decide +kernel
theorem dL_law_1256 : decode cL_law 1256 = .ok (.aload 21, 2) := by decide +kernel
theorem dL_law_1258 : decode cL_law 1258 = .ok (.ldc_w 260, 3) := by decide +kernel
theorem dL_law_1261 : decode cL_law 1261 = .ok (.iconst 3, 1) := by decide +kernel
theorem dL_law_1262 : decode cL_law 1262 = .ok (.bipush 8, 2) := by decide +kernel
theorem dL_law_1264 : decode cL_law 1264 = .ok (.invokestatic 256, 3) := by decide +kernel
theorem dL_law_1267 : decode cL_law 1267 = .ok (.ifCond .eq 125, 3) := by decide +kernel
theorem dL_law_1270 : decode cL_law 1270 = .ok (.aload 21, 2) := by decide +kernel
theorem dL_law_1272 : decode cL_law 1272 = .ok (.ldc_w 262, 3) := by decide +kernel
theorem dL_law_1275 : decode cL_law 1275 = .ok (.iconst 2, 1) := by decide +kernel
theorem dL_law_1276 : decode cL_law 1276 = .ok (.iconst 4, 1) := by decide +kernel
theorem dL_law_1277 : decode cL_law 1277 = .ok (.invokestatic 256, 3) := by decide +kernel
theorem dL_law_1280 : decode cL_law 1280 = .ok (.ifCond .eq 112, 3) := by decide +kernel
theorem dL_law_1283 : decode cL_law 1283 = .ok (.aload 21, 2) := by decide +kernel
theorem dL_law_1285 : decode cL_law 1285 = .ok (.new 42, 3) := by decide +kernel
theorem dL_law_1288 : decode cL_law 1288 = .ok (.dup, 1) := by decide +kernel
theorem dL_law_1289 : decode cL_law 1289 = .ok (.invokespecial 44, 3) := by decide +kernel
theorem dL_law_1292 : decode cL_law 1292 = .ok (.aload 22, 2) := by decide +kernel
theorem dL_law_1294 : decode cL_law 1294 = .ok (.invokevirtual 47, 3) := by decide +kernel
theorem dL_law_1297 : decode cL_law 1297 = .ok (.aload 22, 2) := by decide +kernel
theorem dL_law_1299 : decode cL_law 1299 = .ok (.invokevirtual 47, 3) := by decide +kernel
theorem dL_law_1302 : decode cL_law 1302 = .ok (.invokevirtual 64, 3) := by decide +kernel
theorem dL_law_1305 : decode cL_law 1305 = .ok (.iconst 3, 1) := by decide +kernel
theorem dL_law_1306 : decode cL_law 1306 = .ok (.bipush 17, 2) := by decide +kernel
theorem dL_law_1308 : decode cL_law 1308 = .ok (.invokestatic 256, 3) := by decide +kernel
theorem dL_law_1311 : decode cL_law 1311 = .ok (.ifCond .eq 81, 3) := by decide +kernel
theorem dL_law_1314 : decode cL_law 1314 = .ok (.aload 21, 2) := by decide +kernel
theorem dL_law_1316 : decode cL_law 1316 = .ok (.new 42, 3) := by decide +kernel
theorem dL_law_1319 : decode cL_law 1319 = .ok (.dup, 1) := by decide +kernel
theorem dL_law_1320 : decode cL_law 1320 = .ok (.invokespecial 44, 3) := by decide +kernel
theorem dL_law_1323 : decode cL_law 1323 = .ok (.aload 22, 2) := by decide +kernel
theorem dL_law_1325 : decode cL_law 1325 = .ok (.invokevirtual 47, 3) := by decide +kernel
theorem dL_law_1328 : decode cL_law 1328 = .ok (.ldc_w 264, 3) := by decide +kernel
theorem dL_law_1331 : decode cL_law 1331 = .ok (.invokevirtual 47, 3) := by decide +kernel
theorem dL_law_1334 : decode cL_law 1334 = .ok (.invokevirtual 64, 3) := by decide +kernel
theorem dL_law_1337 : decode cL_law 1337 = .ok (.iconst 1, 1) := by decide +kernel
theorem dL_law_1338 : decode cL_law 1338 = .ok (.bipush 17, 2) := by decide +kernel
theorem dL_law_1340 : decode cL_law 1340 = .ok (.invokestatic 256, 3) := by decide +kernel
theorem dL_law_1343 : decode cL_law 1343 = .ok (.ifCond .eq 49, 3) := by decide +kernel
theorem dL_law_1346 : decode cL_law 1346 = .ok (.aload 21, 2) := by decide +kernel
theorem dL_law_1348 : decode cL_law 1348 = .ok (.new 42, 3) := by decide +kernel
theorem dL_law_1351 : decode cL_law 1351 = .ok (.dup, 1) := by decide +kernel
theorem dL_law_1352 : decode cL_law 1352 = .ok (.invokespecial 44, 3) := by decide +kernel
theorem dL_law_1355 : decode cL_law 1355 = .ok (.aload 22, 2) := by decide +kernel
theorem dL_law_1357 : decode cL_law 1357 = .ok (.invokevirtual 47, 3) := by decide +kernel
theorem dL_law_1360 : decode cL_law 1360 = .ok (.ldc_w 266, 3) := by decide +kernel
theorem dL_law_1363 : decode cL_law 1363 = .ok (.invokevirtual 47, 3) := by decide +kernel
theorem dL_law_1366 : decode cL_law 1366 = .ok (.invokevirtual 64, 3) := by decide +kernel
theorem dL_law_1369 : decode cL_law 1369 = .ok (.iconst 2, 1) := by decide +kernel
theorem dL_law_1370 : decode cL_law 1370 = .ok (.bipush 19, 2) := by decide +kernel
theorem dL_law_1372 : decode cL_law 1372 = .ok (.invokestatic 256, 3) := by decide +kernel
theorem dL_law_1375 : decode cL_law 1375 = .ok (.ifCond .eq 17, 3) := by decide +kernel
theorem dL_law_1378 : decode cL_law 1378 = .ok (.aload 21, 2) := by decide +kernel
theorem dL_law_1380 : decode cL_law 1380 = .ok (.ldc_w 268, 3) := by decide +kernel
theorem dL_law_1383 : decode cL_law 1383 = .ok (.iconst 2, 1) := by decide +kernel
theorem dL_law_1384 : decode cL_law 1384 = .ok (.bipush 8, 2) := by decide +kernel
theorem dL_law_1386 : decode cL_law 1386 = .ok (.invokestatic 256, 3) := by decide +kernel
theorem dL_law_1389 : decode cL_law 1389 = .ok (.ifCond .ne 5, 3) := by decide +kernel
set_option maxRecDepth 20000 in
theorem sg_L1 {k0 u0 a b : Nat} {h : List va_E} (hd : 23 ≤ d) (kk : ∀ h1 w1 B, OB G h1 B w1 → ER 7 w1 2 8 → Tr l G mL_law d k0 u0 1394 (lvR G B) [] h1 Q) : Tr l G mL_law d (k0 + 250) (u0 + 30000) 1230 [(4, .ref a), (3, .ref b), (2, .int (nI (dw G 0 9))), (1, .ref (gz G + 0)), (0, .ref (gB G))] [] h Q := by
  obtain ⟨B, hB⟩ : ∃ B, h.length = B := ⟨_, rfl⟩
  refine am_newL (n := B) hB (k1 := k0 + 249) (u1 := u0 + 29991) dL_law_1230 kNL_25 (by omega) (by omega) ?_
  have x1 : (h ++ [(.inr (7, [.null, .int 0, .null, .null, .null, .null, .null, .null, .null]) : va_E)])[B]? = some (.inr (7, [.null, .int 0, .null, .null, .null, .null, .null, .null, .null])) := hs_newc hB
  have x2 : (h ++ [(.inr (7, [.null, .int 0, .null, .null, .null, .null, .null, .null, .null]) : va_E)]).length = B + 1 := by rw [List.length_append, hB]; rfl
  refine am_dup dL_law_1233 rfl ?_
  refine mm_callI (As := []) (rest := [.ref (gz G + B)]) dL_law_1234 kML_159 rfl rfl (Nat.le_of_ble_eq_true rfl) (d2 := 4) (by omega) (k2 := 220) (by omega) (u2 := 11749) (by omega) (om_init (B := B) x2 x1) (fun r1 h0 q3 => ?_)
  obtain ⟨rfl, n1, kp1, o0⟩ := q3
  have E0 := er_0
  refine am_room (k1 := k0 + 18) (u1 := u0 + 12420) ?_ (by omega) (by omega)
  refine am_astore dL_law_1237 (by decide) (lv' := [(21, .ref (gz G + B)), (4, .ref a), (3, .ref b), (2, .int (nI (dw G 0 9))), (1, .ref (gz G + 0)), (0, .ref (gB G))]) rfl ?_
  refine am_ldcS (j := 37) dL_law_1239 rfl ?_
  refine am_astore dL_law_1241 (by decide) (lv' := [(22, .ref (gS G 37)), (21, .ref (gz G + B)), (4, .ref a), (3, .ref b), (2, .int (nI (dw G 0 9))), (1, .ref (gz G + 0)), (0, .ref (gB G))]) rfl ?_
  refine am_lv (lv' := lvR G B) [0, 1] rfl ?_
  refine am_aload dL_law_1243 1 rfl ?_
  refine am_ldcS (j := 38) dL_law_1245 rfl ?_
  refine am_iconst (v := 2) dL_law_1247 (by decide) ?_
  refine am_bipush (v := 10) dL_law_1248 (by decide) ?_
  refine fl_1 (T := sq38.2.2.2) hd o0 E0 (st_k (q := sq38) rfl) (by unfold TC; decide +kernel) (by decide) (by decide) ek_0 dL_law_1250 (fun h1 w1 o1 E1 => ?_)
  refine am_if_eq dL_law_1253 (by decide : ((1253 : Nat) : Int) + (139) = ((1392 : Nat) : Int)) (fun zq => absurd zq (by decide)) (fun _ => ?_)
  refine am_aload dL_law_1256 1 rfl ?_
  refine am_ldcwS (j := 39) dL_law_1258 rfl ?_
  refine am_iconst (v := 3) dL_law_1261 (by decide) ?_
  refine am_bipush (v := 8) dL_law_1262 (by decide) ?_
  refine fl_1 (T := sq39.2.2.2) hd o1 E1 (st_k (q := sq39) rfl) (by unfold TC; decide +kernel) (by decide) (by decide) ek_1 dL_law_1264 (fun h2 w2 o2 E2 => ?_)
  refine am_if_eq dL_law_1267 (by decide : ((1267 : Nat) : Int) + (125) = ((1392 : Nat) : Int)) (fun zq => absurd zq (by decide)) (fun _ => ?_)
  refine am_aload dL_law_1270 1 rfl ?_
  refine am_ldcwS (j := 40) dL_law_1272 rfl ?_
  refine am_iconst (v := 2) dL_law_1275 (by decide) ?_
  refine am_iconst (v := 4) dL_law_1276 (by decide) ?_
  refine fl_1 (T := sq40.2.2.2) hd o2 E2 (st_k (q := sq40) rfl) (by unfold TC; decide +kernel) (by decide) (by decide) ek_2 dL_law_1277 (fun h3 w3 o3 E3 => ?_)
  refine am_if_eq dL_law_1280 (by decide : ((1280 : Nat) : Int) + (112) = ((1392 : Nat) : Int)) (fun zq => absurd zq (by decide)) (fun _ => ?_)
  refine am_aload dL_law_1283 1 rfl ?_
  refine am_room (k1 := k0 + 15 + 3) (u1 := u0 + 10400 + 2020) ?_ (by omega) (by omega)
  refine cat_A hd o3 dL_law_1285 dL_law_1288 dL_law_1289 dL_law_1292 dL_law_1294 (fun c3 Bb3 n3 b3 l3 m3 => ?_)
  refine am_aload dL_law_1297 0 rfl ?_
  refine cat_B (k0 := k0 + 12) (u0 := u0 + 8280) (q := sq37) hd o3 n3 b3 l3 m3 rfl (by decide) dL_law_1299 dL_law_1302 (fun g3 s3 p3 t3 => ?_)
  refine am_iconst (v := 3) dL_law_1305 (by decide) ?_
  refine am_bipush (v := 17) dL_law_1306 (by decide) ?_
  refine fl_1 (T := (sq37.2.2.2 ++ sq37.2.2.2)) hd p3 E3 t3 (tc_cat tc_37 (by unfold TC; decide +kernel)) (by decide) (by decide) ek_3 dL_law_1308 (fun h4 w4 o4 E4 => ?_)
  refine am_if_eq dL_law_1311 (by decide : ((1311 : Nat) : Int) + (81) = ((1392 : Nat) : Int)) (fun zq => absurd zq (by decide)) (fun _ => ?_)
  refine am_aload dL_law_1314 1 rfl ?_
  refine am_room (k1 := k0 + 9 + 3) (u1 := u0 + 6260 + 2020) ?_ (by omega) (by omega)
  refine cat_A hd o4 dL_law_1316 dL_law_1319 dL_law_1320 dL_law_1323 dL_law_1325 (fun c4 Bb4 n4 b4 l4 m4 => ?_)
  refine am_ldcwS (j := 41) dL_law_1328 rfl ?_
  refine cat_B (k0 := k0 + 6) (u0 := u0 + 4140) (q := sq41) hd o4 n4 b4 l4 m4 rfl (by decide) dL_law_1331 dL_law_1334 (fun g4 s4 p4 t4 => ?_)
  refine am_iconst (v := 1) dL_law_1337 (by decide) ?_
  refine am_bipush (v := 17) dL_law_1338 (by decide) ?_
  refine fl_1 (T := (sq37.2.2.2 ++ sq41.2.2.2)) hd p4 E4 t4 (tc_cat tc_37 (by unfold TC; decide +kernel)) (by decide) (by decide) ek_4 dL_law_1340 (fun h5 w5 o5 E5 => ?_)
  refine am_if_eq dL_law_1343 (by decide : ((1343 : Nat) : Int) + (49) = ((1392 : Nat) : Int)) (fun zq => absurd zq (by decide)) (fun _ => ?_)
  refine am_aload dL_law_1346 1 rfl ?_
  refine am_room (k1 := k0 + 3 + 3) (u1 := u0 + 2120 + 2020) ?_ (by omega) (by omega)
  refine cat_A hd o5 dL_law_1348 dL_law_1351 dL_law_1352 dL_law_1355 dL_law_1357 (fun c5 Bb5 n5 b5 l5 m5 => ?_)
  refine am_ldcwS (j := 42) dL_law_1360 rfl ?_
  refine cat_B (k0 := k0 + 0) (u0 := u0 + 0) (q := sq42) hd o5 n5 b5 l5 m5 rfl (by decide) dL_law_1363 dL_law_1366 (fun g5 s5 p5 t5 => ?_)
  refine am_iconst (v := 2) dL_law_1369 (by decide) ?_
  refine am_bipush (v := 19) dL_law_1370 (by decide) ?_
  refine fl_1 (T := (sq37.2.2.2 ++ sq42.2.2.2)) hd p5 E5 t5 (tc_cat tc_37 (by unfold TC; decide +kernel)) (by decide) (by decide) ek_5 dL_law_1372 (fun h6 w6 o6 E6 => ?_)
  refine am_if_eq dL_law_1375 (by decide : ((1375 : Nat) : Int) + (17) = ((1392 : Nat) : Int)) (fun zq => absurd zq (by decide)) (fun _ => ?_)
  refine am_aload dL_law_1378 1 rfl ?_
  refine am_ldcwS (j := 43) dL_law_1380 rfl ?_
  refine am_iconst (v := 2) dL_law_1383 (by decide) ?_
  refine am_bipush (v := 8) dL_law_1384 (by decide) ?_
  refine fl_1 (T := sq43.2.2.2) hd o6 E6 (st_k (q := sq43) rfl) (by unfold TC; decide +kernel) (by decide) (by decide) ek_6 dL_law_1386 (fun h7 w7 o7 E7 => ?_)
  refine am_if_ne dL_law_1389 (by decide : ((1389 : Nat) : Int) + (5) = ((1394 : Nat) : Int)) (fun _ => ?_) (fun zq => absurd zq (by decide))
  exact kk h7 w7 B o7 E7
theorem dL_law_1394 : decode cL_law 1394 = .ok (.aload 21, 2) := by decide +kernel
theorem dL_law_1396 : decode cL_law 1396 = .ok (.ldc_w 270, 3) := by decide +kernel
theorem dL_law_1399 : decode cL_law 1399 = .ok (.iconst 2, 1) := by decide +kernel
theorem dL_law_1400 : decode cL_law 1400 = .ok (.bipush 11, 2) := by decide +kernel
theorem dL_law_1402 : decode cL_law 1402 = .ok (.invokestatic 256, 3) := by decide +kernel
theorem dL_law_1405 : decode cL_law 1405 = .ok (.ifCond .eq 163, 3) := by decide +kernel
theorem dL_law_1408 : decode cL_law 1408 = .ok (.aload 21, 2) := by decide +kernel
theorem dL_law_1410 : decode cL_law 1410 = .ok (.new 42, 3) := by decide +kernel
theorem dL_law_1413 : decode cL_law 1413 = .ok (.dup, 1) := by decide +kernel
theorem dL_law_1414 : decode cL_law 1414 = .ok (.invokespecial 44, 3) := by decide +kernel
theorem dL_law_1417 : decode cL_law 1417 = .ok (.aload 22, 2) := by decide +kernel
theorem dL_law_1419 : decode cL_law 1419 = .ok (.invokevirtual 47, 3) := by decide +kernel
theorem dL_law_1422 : decode cL_law 1422 = .ok (.ldc_w 272, 3) := by decide +kernel
theorem dL_law_1425 : decode cL_law 1425 = .ok (.invokevirtual 47, 3) := by decide +kernel
theorem dL_law_1428 : decode cL_law 1428 = .ok (.invokevirtual 64, 3) := by decide +kernel
theorem dL_law_1431 : decode cL_law 1431 = .ok (.iconst 4, 1) := by decide +kernel
theorem dL_law_1432 : decode cL_law 1432 = .ok (.bipush 18, 2) := by decide +kernel
theorem dL_law_1434 : decode cL_law 1434 = .ok (.invokestatic 256, 3) := by decide +kernel
theorem dL_law_1437 : decode cL_law 1437 = .ok (.ifCond .eq 131, 3) := by decide +kernel
theorem dL_law_1440 : decode cL_law 1440 = .ok (.aload 21, 2) := by decide +kernel
theorem dL_law_1442 : decode cL_law 1442 = .ok (.new 42, 3) := by decide +kernel
theorem dL_law_1445 : decode cL_law 1445 = .ok (.dup, 1) := by decide +kernel
theorem dL_law_1446 : decode cL_law 1446 = .ok (.invokespecial 44, 3) := by decide +kernel
theorem dL_law_1449 : decode cL_law 1449 = .ok (.aload 22, 2) := by decide +kernel
theorem dL_law_1451 : decode cL_law 1451 = .ok (.invokevirtual 47, 3) := by decide +kernel
theorem dL_law_1454 : decode cL_law 1454 = .ok (.ldc_w 274, 3) := by decide +kernel
theorem dL_law_1457 : decode cL_law 1457 = .ok (.invokevirtual 47, 3) := by decide +kernel
theorem dL_law_1460 : decode cL_law 1460 = .ok (.invokevirtual 64, 3) := by decide +kernel
theorem dL_law_1463 : decode cL_law 1463 = .ok (.iconst 1, 1) := by decide +kernel
theorem dL_law_1464 : decode cL_law 1464 = .ok (.bipush 20, 2) := by decide +kernel
theorem dL_law_1466 : decode cL_law 1466 = .ok (.invokestatic 256, 3) := by decide +kernel
theorem dL_law_1469 : decode cL_law 1469 = .ok (.ifCond .eq 99, 3) := by decide +kernel
theorem dL_law_1472 : decode cL_law 1472 = .ok (.aload 21, 2) := by decide +kernel
theorem dL_law_1474 : decode cL_law 1474 = .ok (.new 42, 3) := by decide +kernel
theorem dL_law_1477 : decode cL_law 1477 = .ok (.dup, 1) := by decide +kernel
theorem dL_law_1478 : decode cL_law 1478 = .ok (.invokespecial 44, 3) := by decide +kernel
theorem dL_law_1481 : decode cL_law 1481 = .ok (.aload 22, 2) := by decide +kernel
theorem dL_law_1483 : decode cL_law 1483 = .ok (.invokevirtual 47, 3) := by decide +kernel
theorem dL_law_1486 : decode cL_law 1486 = .ok (.ldc_w 276, 3) := by decide +kernel
theorem dL_law_1489 : decode cL_law 1489 = .ok (.invokevirtual 47, 3) := by decide +kernel
theorem dL_law_1492 : decode cL_law 1492 = .ok (.invokevirtual 64, 3) := by decide +kernel
theorem dL_law_1495 : decode cL_law 1495 = .ok (.iconst 2, 1) := by decide +kernel
theorem dL_law_1496 : decode cL_law 1496 = .ok (.bipush 29, 2) := by decide +kernel
theorem dL_law_1498 : decode cL_law 1498 = .ok (.invokestatic 256, 3) := by decide +kernel
theorem dL_law_1501 : decode cL_law 1501 = .ok (.ifCond .eq 67, 3) := by decide +kernel
theorem dL_law_1504 : decode cL_law 1504 = .ok (.aload 21, 2) := by decide +kernel
theorem dL_law_1506 : decode cL_law 1506 = .ok (.new 42, 3) := by decide +kernel
theorem dL_law_1509 : decode cL_law 1509 = .ok (.dup, 1) := by decide +kernel
theorem dL_law_1510 : decode cL_law 1510 = .ok (.invokespecial 44, 3) := by decide +kernel
theorem dL_law_1513 : decode cL_law 1513 = .ok (.aload 22, 2) := by decide +kernel
theorem dL_law_1515 : decode cL_law 1515 = .ok (.invokevirtual 47, 3) := by decide +kernel
theorem dL_law_1518 : decode cL_law 1518 = .ok (.ldc_w 278, 3) := by decide +kernel
theorem dL_law_1521 : decode cL_law 1521 = .ok (.invokevirtual 47, 3) := by decide +kernel
theorem dL_law_1524 : decode cL_law 1524 = .ok (.invokevirtual 64, 3) := by decide +kernel
theorem dL_law_1527 : decode cL_law 1527 = .ok (.iconst 2, 1) := by decide +kernel
theorem dL_law_1528 : decode cL_law 1528 = .ok (.bipush 37, 2) := by decide +kernel
theorem dL_law_1530 : decode cL_law 1530 = .ok (.invokestatic 256, 3) := by decide +kernel
theorem dL_law_1533 : decode cL_law 1533 = .ok (.ifCond .eq 35, 3) := by decide +kernel
theorem dL_law_1536 : decode cL_law 1536 = .ok (.aload 21, 2) := by decide +kernel
theorem dL_law_1538 : decode cL_law 1538 = .ok (.new 42, 3) := by decide +kernel
theorem dL_law_1541 : decode cL_law 1541 = .ok (.dup, 1) := by decide +kernel
theorem dL_law_1542 : decode cL_law 1542 = .ok (.invokespecial 44, 3) := by decide +kernel
theorem dL_law_1545 : decode cL_law 1545 = .ok (.aload 22, 2) := by decide +kernel
theorem dL_law_1547 : decode cL_law 1547 = .ok (.invokevirtual 47, 3) := by decide +kernel
theorem dL_law_1550 : decode cL_law 1550 = .ok (.ldc_w 280, 3) := by decide +kernel
theorem dL_law_1553 : decode cL_law 1553 = .ok (.invokevirtual 47, 3) := by decide +kernel
theorem dL_law_1556 : decode cL_law 1556 = .ok (.invokevirtual 64, 3) := by decide +kernel
theorem dL_law_1559 : decode cL_law 1559 = .ok (.iconst 5, 1) := by decide +kernel
theorem dL_law_1560 : decode cL_law 1560 = .ok (.bipush 64, 2) := by decide +kernel
theorem dL_law_1562 : decode cL_law 1562 = .ok (.invokestatic 256, 3) := by decide +kernel
theorem dL_law_1565 : decode cL_law 1565 = .ok (.ifCond .ne 5, 3) := by decide +kernel
set_option maxRecDepth 20000 in
theorem sg_L2 {k0 u0 B : Nat} {h7 : List va_E} {w7 : Wd} (hd : 23 ≤ d) (o7 : OB G h7 B w7) (E7 : ER 7 w7 2 8) (kk : ∀ h1 w1, OB G h1 B w1 → ER 13 w1 5 64 → Tr l G mL_law d k0 u0 1570 (lvR G B) [] h1 Q) : Tr l G mL_law d (k0 + 30) (u0 + 20700) 1394 (lvR G B) [] h7 Q := by
  refine am_aload dL_law_1394 1 rfl ?_
  refine am_ldcwS (j := 44) dL_law_1396 rfl ?_
  refine am_iconst (v := 2) dL_law_1399 (by decide) ?_
  refine am_bipush (v := 11) dL_law_1400 (by decide) ?_
  refine fl_1 (T := sq44.2.2.2) hd o7 E7 (st_k (q := sq44) rfl) (by unfold TC; decide +kernel) (by decide) (by decide) ek_7 dL_law_1402 (fun h8 w8 o8 E8 => ?_)
  refine am_if_eq dL_law_1405 (by decide : ((1405 : Nat) : Int) + (163) = ((1568 : Nat) : Int)) (fun zq => absurd zq (by decide)) (fun _ => ?_)
  refine am_aload dL_law_1408 1 rfl ?_
  refine am_room (k1 := k0 + 27 + 3) (u1 := u0 + 18680 + 2020) ?_ (by omega) (by omega)
  refine cat_A hd o8 dL_law_1410 dL_law_1413 dL_law_1414 dL_law_1417 dL_law_1419 (fun c8 Bb8 n8 b8 l8 m8 => ?_)
  refine am_ldcwS (j := 45) dL_law_1422 rfl ?_
  refine cat_B (k0 := k0 + 24) (u0 := u0 + 16560) (q := sq45) hd o8 n8 b8 l8 m8 rfl (by decide) dL_law_1425 dL_law_1428 (fun g8 s8 p8 t8 => ?_)
  refine am_iconst (v := 4) dL_law_1431 (by decide) ?_
  refine am_bipush (v := 18) dL_law_1432 (by decide) ?_
  refine fl_1 (T := (sq37.2.2.2 ++ sq45.2.2.2)) hd p8 E8 t8 (tc_cat tc_37 (by unfold TC; decide +kernel)) (by decide) (by decide) ek_8 dL_law_1434 (fun h9 w9 o9 E9 => ?_)
  refine am_if_eq dL_law_1437 (by decide : ((1437 : Nat) : Int) + (131) = ((1568 : Nat) : Int)) (fun zq => absurd zq (by decide)) (fun _ => ?_)
  refine am_aload dL_law_1440 1 rfl ?_
  refine am_room (k1 := k0 + 21 + 3) (u1 := u0 + 14540 + 2020) ?_ (by omega) (by omega)
  refine cat_A hd o9 dL_law_1442 dL_law_1445 dL_law_1446 dL_law_1449 dL_law_1451 (fun c9 Bb9 n9 b9 l9 m9 => ?_)
  refine am_ldcwS (j := 46) dL_law_1454 rfl ?_
  refine cat_B (k0 := k0 + 18) (u0 := u0 + 12420) (q := sq46) hd o9 n9 b9 l9 m9 rfl (by decide) dL_law_1457 dL_law_1460 (fun g9 s9 p9 t9 => ?_)
  refine am_iconst (v := 1) dL_law_1463 (by decide) ?_
  refine am_bipush (v := 20) dL_law_1464 (by decide) ?_
  refine fl_1 (T := (sq37.2.2.2 ++ sq46.2.2.2)) hd p9 E9 t9 (tc_cat tc_37 (by unfold TC; decide +kernel)) (by decide) (by decide) ek_9 dL_law_1466 (fun h10 w10 o10 E10 => ?_)
  refine am_if_eq dL_law_1469 (by decide : ((1469 : Nat) : Int) + (99) = ((1568 : Nat) : Int)) (fun zq => absurd zq (by decide)) (fun _ => ?_)
  refine am_aload dL_law_1472 1 rfl ?_
  refine am_room (k1 := k0 + 15 + 3) (u1 := u0 + 10400 + 2020) ?_ (by omega) (by omega)
  refine cat_A hd o10 dL_law_1474 dL_law_1477 dL_law_1478 dL_law_1481 dL_law_1483 (fun c10 Bb10 n10 b10 l10 m10 => ?_)
  refine am_ldcwS (j := 47) dL_law_1486 rfl ?_
  refine cat_B (k0 := k0 + 12) (u0 := u0 + 8280) (q := sq47) hd o10 n10 b10 l10 m10 rfl (by decide) dL_law_1489 dL_law_1492 (fun g10 s10 p10 t10 => ?_)
  refine am_iconst (v := 2) dL_law_1495 (by decide) ?_
  refine am_bipush (v := 29) dL_law_1496 (by decide) ?_
  refine fl_1 (T := (sq37.2.2.2 ++ sq47.2.2.2)) hd p10 E10 t10 (tc_cat tc_37 (by unfold TC; decide +kernel)) (by decide) (by decide) ek_10 dL_law_1498 (fun h11 w11 o11 E11 => ?_)
  refine am_if_eq dL_law_1501 (by decide : ((1501 : Nat) : Int) + (67) = ((1568 : Nat) : Int)) (fun zq => absurd zq (by decide)) (fun _ => ?_)
  refine am_aload dL_law_1504 1 rfl ?_
  refine am_room (k1 := k0 + 9 + 3) (u1 := u0 + 6260 + 2020) ?_ (by omega) (by omega)
  refine cat_A hd o11 dL_law_1506 dL_law_1509 dL_law_1510 dL_law_1513 dL_law_1515 (fun c11 Bb11 n11 b11 l11 m11 => ?_)
  refine am_ldcwS (j := 48) dL_law_1518 rfl ?_
  refine cat_B (k0 := k0 + 6) (u0 := u0 + 4140) (q := sq48) hd o11 n11 b11 l11 m11 rfl (by decide) dL_law_1521 dL_law_1524 (fun g11 s11 p11 t11 => ?_)
  refine am_iconst (v := 2) dL_law_1527 (by decide) ?_
  refine am_bipush (v := 37) dL_law_1528 (by decide) ?_
  refine fl_1 (T := (sq37.2.2.2 ++ sq48.2.2.2)) hd p11 E11 t11 (tc_cat tc_37 (by unfold TC; decide +kernel)) (by decide) (by decide) ek_11 dL_law_1530 (fun h12 w12 o12 E12 => ?_)
  refine am_if_eq dL_law_1533 (by decide : ((1533 : Nat) : Int) + (35) = ((1568 : Nat) : Int)) (fun zq => absurd zq (by decide)) (fun _ => ?_)
  refine am_aload dL_law_1536 1 rfl ?_
  refine am_room (k1 := k0 + 3 + 3) (u1 := u0 + 2120 + 2020) ?_ (by omega) (by omega)
  refine cat_A hd o12 dL_law_1538 dL_law_1541 dL_law_1542 dL_law_1545 dL_law_1547 (fun c12 Bb12 n12 b12 l12 m12 => ?_)
  refine am_ldcwS (j := 49) dL_law_1550 rfl ?_
  refine cat_B (k0 := k0 + 0) (u0 := u0 + 0) (q := sq49) hd o12 n12 b12 l12 m12 rfl (by decide) dL_law_1553 dL_law_1556 (fun g12 s12 p12 t12 => ?_)
  refine am_iconst (v := 5) dL_law_1559 (by decide) ?_
  refine am_bipush (v := 64) dL_law_1560 (by decide) ?_
  refine fl_1 (T := (sq37.2.2.2 ++ sq49.2.2.2)) hd p12 E12 t12 (tc_cat tc_37 (by unfold TC; decide +kernel)) (by decide) (by decide) ek_12 dL_law_1562 (fun h13 w13 o13 E13 => ?_)
  refine am_if_ne dL_law_1565 (by decide : ((1565 : Nat) : Int) + (5) = ((1570 : Nat) : Int)) (fun _ => ?_) (fun zq => absurd zq (by decide))
  exact kk h13 w13 o13 E13
theorem dL_law_1570 : decode cL_law 1570 = .ok (.aload 21, 2) := by decide +kernel
theorem dL_law_1572 : decode cL_law 1572 = .ok (.new 42, 3) := by decide +kernel
theorem dL_law_1575 : decode cL_law 1575 = .ok (.dup, 1) := by decide +kernel
theorem dL_law_1576 : decode cL_law 1576 = .ok (.invokespecial 44, 3) := by decide +kernel
theorem dL_law_1579 : decode cL_law 1579 = .ok (.aload 22, 2) := by decide +kernel
theorem dL_law_1581 : decode cL_law 1581 = .ok (.invokevirtual 47, 3) := by decide +kernel
theorem dL_law_1584 : decode cL_law 1584 = .ok (.ldc_w 282, 3) := by decide +kernel
theorem dL_law_1587 : decode cL_law 1587 = .ok (.invokevirtual 47, 3) := by decide +kernel
theorem dL_law_1590 : decode cL_law 1590 = .ok (.invokevirtual 64, 3) := by decide +kernel
theorem dL_law_1593 : decode cL_law 1593 = .ok (.iconst 5, 1) := by decide +kernel
theorem dL_law_1594 : decode cL_law 1594 = .ok (.bipush 40, 2) := by decide +kernel
theorem dL_law_1596 : decode cL_law 1596 = .ok (.invokestatic 256, 3) := by decide +kernel
theorem dL_law_1599 : decode cL_law 1599 = .ok (.ifCond .eq 79, 3) := by decide +kernel
theorem dL_law_1602 : decode cL_law 1602 = .ok (.aload 21, 2) := by decide +kernel
theorem dL_law_1604 : decode cL_law 1604 = .ok (.new 42, 3) := by decide +kernel
theorem dL_law_1607 : decode cL_law 1607 = .ok (.dup, 1) := by decide +kernel
theorem dL_law_1608 : decode cL_law 1608 = .ok (.invokespecial 44, 3) := by decide +kernel
theorem dL_law_1611 : decode cL_law 1611 = .ok (.aload 22, 2) := by decide +kernel
theorem dL_law_1613 : decode cL_law 1613 = .ok (.invokevirtual 47, 3) := by decide +kernel
theorem dL_law_1616 : decode cL_law 1616 = .ok (.ldc_w 284, 3) := by decide +kernel
theorem dL_law_1619 : decode cL_law 1619 = .ok (.invokevirtual 47, 3) := by decide +kernel
theorem dL_law_1622 : decode cL_law 1622 = .ok (.invokevirtual 64, 3) := by decide +kernel
theorem dL_law_1625 : decode cL_law 1625 = .ok (.iconst 1, 1) := by decide +kernel
theorem dL_law_1626 : decode cL_law 1626 = .ok (.bipush 23, 2) := by decide +kernel
theorem dL_law_1628 : decode cL_law 1628 = .ok (.invokestatic 256, 3) := by decide +kernel
theorem dL_law_1631 : decode cL_law 1631 = .ok (.ifCond .eq 47, 3) := by decide +kernel
theorem dL_law_1634 : decode cL_law 1634 = .ok (.aload 21, 2) := by decide +kernel
theorem dL_law_1636 : decode cL_law 1636 = .ok (.new 42, 3) := by decide +kernel
theorem dL_law_1639 : decode cL_law 1639 = .ok (.dup, 1) := by decide +kernel
theorem dL_law_1640 : decode cL_law 1640 = .ok (.invokespecial 44, 3) := by decide +kernel
theorem dL_law_1643 : decode cL_law 1643 = .ok (.aload 22, 2) := by decide +kernel
theorem dL_law_1645 : decode cL_law 1645 = .ok (.invokevirtual 47, 3) := by decide +kernel
theorem dL_law_1648 : decode cL_law 1648 = .ok (.ldc_w 286, 3) := by decide +kernel
theorem dL_law_1651 : decode cL_law 1651 = .ok (.invokevirtual 47, 3) := by decide +kernel
theorem dL_law_1654 : decode cL_law 1654 = .ok (.invokevirtual 64, 3) := by decide +kernel
theorem dL_law_1657 : decode cL_law 1657 = .ok (.iconst 1, 1) := by decide +kernel
theorem dL_law_1658 : decode cL_law 1658 = .ok (.bipush 12, 2) := by decide +kernel
theorem dL_law_1660 : decode cL_law 1660 = .ok (.invokestatic 256, 3) := by decide +kernel
theorem dL_law_1663 : decode cL_law 1663 = .ok (.ifCond .eq 15, 3) := by decide +kernel
theorem dL_law_1666 : decode cL_law 1666 = .ok (.aload 21, 2) := by decide +kernel
theorem dL_law_1668 : decode cL_law 1668 = .ok (.invokevirtual 138, 3) := by decide +kernel
theorem dL_law_1671 : decode cL_law 1671 = .ok (.ifCond .ne 7, 3) := by decide +kernel
theorem dL_law_1674 : decode cL_law 1674 = .ok (.iconst 1, 1) := by decide +kernel
theorem dL_law_1675 : decode cL_law 1675 = .ok (.goto 4, 3) := by decide +kernel
theorem dL_law_1679 : decode cL_law 1679 = .ok (.ireturn, 1) := by decide +kernel
set_option maxRecDepth 20000 in
theorem sg_L3 {k0 u0 B : Nat} {h13 : List va_E} {w13 : Wd} (hd : 23 ≤ d) (o13 : OB G h13 B w13) (E13 : ER 13 w13 5 64) (hq : ∀ h1, Q (some (.int 1)) h1) : Tr l G mL_law d (k0 + 18) (u0 + 12420) 1570 (lvR G B) [] h13 Q := by
  refine am_aload dL_law_1570 1 rfl ?_
  refine am_room (k1 := k0 + 15 + 3) (u1 := u0 + 10400 + 2020) ?_ (by omega) (by omega)
  refine cat_A hd o13 dL_law_1572 dL_law_1575 dL_law_1576 dL_law_1579 dL_law_1581 (fun c13 Bb13 n13 b13 l13 m13 => ?_)
  refine am_ldcwS (j := 50) dL_law_1584 rfl ?_
  refine cat_B (k0 := k0 + 12) (u0 := u0 + 8280) (q := sq50) hd o13 n13 b13 l13 m13 rfl (by decide) dL_law_1587 dL_law_1590 (fun g13 s13 p13 t13 => ?_)
  refine am_iconst (v := 5) dL_law_1593 (by decide) ?_
  refine am_bipush (v := 40) dL_law_1594 (by decide) ?_
  refine fl_1 (T := (sq37.2.2.2 ++ sq50.2.2.2)) hd p13 E13 t13 (tc_cat tc_37 (by unfold TC; decide +kernel)) (by decide) (by decide) ek_13 dL_law_1596 (fun h14 w14 o14 E14 => ?_)
  refine am_if_eq dL_law_1599 (by decide : ((1599 : Nat) : Int) + (79) = ((1678 : Nat) : Int)) (fun zq => absurd zq (by decide)) (fun _ => ?_)
  refine am_aload dL_law_1602 1 rfl ?_
  refine am_room (k1 := k0 + 9 + 3) (u1 := u0 + 6260 + 2020) ?_ (by omega) (by omega)
  refine cat_A hd o14 dL_law_1604 dL_law_1607 dL_law_1608 dL_law_1611 dL_law_1613 (fun c14 Bb14 n14 b14 l14 m14 => ?_)
  refine am_ldcwS (j := 51) dL_law_1616 rfl ?_
  refine cat_B (k0 := k0 + 6) (u0 := u0 + 4140) (q := sq51) hd o14 n14 b14 l14 m14 rfl (by decide) dL_law_1619 dL_law_1622 (fun g14 s14 p14 t14 => ?_)
  refine am_iconst (v := 1) dL_law_1625 (by decide) ?_
  refine am_bipush (v := 23) dL_law_1626 (by decide) ?_
  refine fl_1 (T := (sq37.2.2.2 ++ sq51.2.2.2)) hd p14 E14 t14 (tc_cat tc_37 (by unfold TC; decide +kernel)) (by decide) (by decide) ek_14 dL_law_1628 (fun h15 w15 o15 E15 => ?_)
  refine am_if_eq dL_law_1631 (by decide : ((1631 : Nat) : Int) + (47) = ((1678 : Nat) : Int)) (fun zq => absurd zq (by decide)) (fun _ => ?_)
  refine am_aload dL_law_1634 1 rfl ?_
  refine am_room (k1 := k0 + 3 + 3) (u1 := u0 + 2120 + 2020) ?_ (by omega) (by omega)
  refine cat_A hd o15 dL_law_1636 dL_law_1639 dL_law_1640 dL_law_1643 dL_law_1645 (fun c15 Bb15 n15 b15 l15 m15 => ?_)
  refine am_ldcwS (j := 52) dL_law_1648 rfl ?_
  refine cat_B (k0 := k0 + 0) (u0 := u0 + 0) (q := sq52) hd o15 n15 b15 l15 m15 rfl (by decide) dL_law_1651 dL_law_1654 (fun g15 s15 p15 t15 => ?_)
  refine am_iconst (v := 1) dL_law_1657 (by decide) ?_
  refine am_bipush (v := 12) dL_law_1658 (by decide) ?_
  refine fl_1 (T := (sq37.2.2.2 ++ sq52.2.2.2)) hd p15 E15 t15 (tc_cat tc_37 (by unfold TC; decide +kernel)) (by decide) (by decide) ek_15 dL_law_1660 (fun h16 w16 o16 E16 => ?_)
  refine am_if_eq dL_law_1663 (by decide : ((1663 : Nat) : Int) + (15) = ((1678 : Nat) : Int)) (fun zq => absurd zq (by decide)) (fun _ => ?_)
  refine am_aload dL_law_1666 1 rfl ?_
  have q1 := om_pieceCount (l := l) o16
  rw [show fX6_pieceCount w16 = 0 from (er_l E16).2.2.2.2] at q1
  obtain ⟨fs, hfs⟩ := ob_cell o16
  refine mm_callV (As := []) (rest := []) dL_law_1668 kML_138 rfl hfs rfl rfl (Nat.le_of_ble_eq_true rfl) (d2 := 0) (by omega) (k2 := 0) (Nat.zero_le _) (u2 := 0) (Nat.zero_le _) (q1) (fun r1 h17 q3 => ?_)
  obtain ⟨rfl, e0⟩ := q3
  subst e0
  refine am_if_ne dL_law_1671 (by decide : ((1671 : Nat) : Int) + (7) = ((1678 : Nat) : Int)) (fun zq => absurd zq (fun z => z rfl)) (fun _ => ?_)
  refine am_iconst (v := 1) dL_law_1674 (by decide) ?_
  refine am_goto dL_law_1675 (by decide : ((1675 : Nat) : Int) + (4) = ((1679 : Nat) : Int)) ?_
  exact am_ireturn dL_law_1679 rfl rfl (hq _)
end LAW
