/-! The law: the least steam. -/
theorem upd_2 (f : Nat → Int32) (k : Nat) (x y : Int32) : upd (upd f k x) k y = upd f k y := by
  funext j
  unfold upd
  by_cases c : j = k
  · rw [if_pos c, if_pos c]
  · rw [if_neg c, if_neg c, if_neg c]
section LAW
variable {l : Launch} {G : GM} {d : Nat} {Q : Option Value → List va_E → Prop}
theorem dL_law_321 : decode cL_law 321 = .ok (.iload 10, 2) := by decide +kernel
theorem dL_law_323 : decode cL_law 323 = .ok (.bipush 100, 2) := by decide +kernel
theorem dL_law_325 : decode cL_law 325 = .ok (.if_icmp .gt 75, 3) := by decide +kernel
theorem dL_law_328 : decode cL_law 328 = .ok (.aload_n 1, 1) := by decide +kernel
theorem dL_law_329 : decode cL_law 329 = .ok (.iload 10, 2) := by decide +kernel
theorem dL_law_331 : decode cL_law 331 = .ok (.invokevirtual 200, 3) := by decide +kernel
theorem dL_law_334 : decode cL_law 334 = .ok (.ifCond .ge 5, 3) := by decide +kernel
theorem dL_law_339 : decode cL_law 339 = .ok (.aload_n 1, 1) := by decide +kernel
theorem dL_law_340 : decode cL_law 340 = .ok (.iload 5, 2) := by decide +kernel
theorem dL_law_342 : decode cL_law 342 = .ok (.invokestatic 190, 3) := by decide +kernel
theorem dL_law_345 : decode cL_law 345 = .ok (.istore 11, 2) := by decide +kernel
theorem dL_law_347 : decode cL_law 347 = .ok (.iload 11, 2) := by decide +kernel
theorem dL_law_349 : decode cL_law 349 = .ok (.iload 8, 2) := by decide +kernel
theorem dL_law_351 : decode cL_law 351 = .ok (.if_icmp .lt 15, 3) := by decide +kernel
theorem dL_law_354 : decode cL_law 354 = .ok (.iload 9, 2) := by decide +kernel
theorem dL_law_356 : decode cL_law 356 = .ok (.ifCond .lt 24, 3) := by decide +kernel
theorem dL_law_359 : decode cL_law 359 = .ok (.iload 10, 2) := by decide +kernel
theorem dL_law_361 : decode cL_law 361 = .ok (.iload 9, 2) := by decide +kernel
theorem dL_law_363 : decode cL_law 363 = .ok (.if_icmp .lt 17, 3) := by decide +kernel
theorem dL_law_366 : decode cL_law 366 = .ok (.iload 10, 2) := by decide +kernel
theorem dL_law_368 : decode cL_law 368 = .ok (.iload 9, 2) := by decide +kernel
theorem dL_law_370 : decode cL_law 370 = .ok (.if_icmp .ne 12, 3) := by decide +kernel
theorem dL_law_373 : decode cL_law 373 = .ok (.iload 11, 2) := by decide +kernel
theorem dL_law_375 : decode cL_law 375 = .ok (.iload 8, 2) := by decide +kernel
theorem dL_law_377 : decode cL_law 377 = .ok (.if_icmp .ge 5, 3) := by decide +kernel
theorem dL_law_382 : decode cL_law 382 = .ok (.iload 10, 2) := by decide +kernel
theorem dL_law_384 : decode cL_law 384 = .ok (.iconst 1, 1) := by decide +kernel
theorem dL_law_385 : decode cL_law 385 = .ok (.aload_n 0, 1) := by decide +kernel
theorem dL_law_386 : decode cL_law 386 = .ok (.bipush 22, 2) := by decide +kernel
theorem dL_law_388 : decode cL_law 388 = .ok (.bipush 20, 2) := by decide +kernel
theorem dL_law_390 : decode cL_law 390 = .ok (.invokestatic 34, 3) := by decide +kernel
theorem dL_law_393 : decode cL_law 393 = .ok (.iadd, 1) := by decide +kernel
theorem dL_law_394 : decode cL_law 394 = .ok (.iadd, 1) := by decide +kernel
theorem dL_law_395 : decode cL_law 395 = .ok (.istore 10, 2) := by decide +kernel
theorem dL_law_397 : decode cL_law 397 = .ok (.goto (-76), 3) := by decide +kernel
set_option maxRecDepth 20000 in
theorem sg_El (hL : gL G ≤ 260) {k0 u0 a b sh a1 : Nat} {x c7 c6 : Int32} (hd : 23 ≤ d) (hsh : sh < 1 + dw G 1 3) (ha : 1 ≤ a1 ∧ a1 ≤ 7) (S : lsI (fun t => kF (gBx (upd (rwD G) 2 (nI t)) sh) (dw G 0 9)) a1 x) : ∀ (r k : Nat), 101 ≤ r + k → k ≤ 121 → ∀ (h : List va_E) (w : Wd) (g : Nat), OB G h 0 w → g ≤ 100 → CD G (20 + k) w (upd (rwD G) 2 (nI g)) → (∀ h1 w1 k1 g1, OB G h1 0 w1 → g1 ≤ 100 → CD G 141 w1 (upd (rwD G) 2 (nI g1)) → Tr l G mL_law d k0 u0 400 [(10, .int (nI k1)), (9, .int x), (8, .int (nI a1)), (7, .int c7), (6, .int c6), (5, .int (nI sh)), (4, .ref a), (3, .ref b), (2, .int (nI (dw G 0 9))), (1, .ref (gz G + 0)), (0, .ref (gB G))] [] h1 Q) → Tr l G mL_law d k0 u0 321 [(10, .int (nI k)), (9, .int x), (8, .int (nI a1)), (7, .int c7), (6, .int c6), (5, .int (nI sh)), (4, .ref a), (3, .ref b), (2, .int (nI (dw G 0 9))), (1, .ref (gz G + 0)), (0, .ref (gB G))] [] h Q := by
  intro r
  induction r with
  | zero =>
    intro k h1 h2 h w g o hg C kk
    refine am_iload dL_law_321 0 rfl ?_
    refine am_bipush (v := 100) dL_law_323 (by decide) ?_
    refine am_icmp_gt dL_law_325 (by decide : ((325 : Nat) : Int) + (75) = ((400 : Nat) : Int)) (fun _ => ?_) (fun zq => absurd (nI_lt (a := 100) (by omega) (by omega)) zq)
    exact kk h w k g o hg (ci_up C (by omega))
  | succ r ih =>
    intro k h1 h2 h w g o hg C kk
    by_cases hk : k ≤ 100
    · have nd := dw_lt G 22 (n := 20) (by decide)
      refine am_iload dL_law_321 0 rfl ?_
      refine am_bipush (v := 100) dL_law_323 (by decide) ?_
      refine am_icmp_gt dL_law_325 (by decide : ((325 : Nat) : Int) + (75) = ((400 : Nat) : Int)) (fun zq => absurd zq (nI_nlt hk (by decide))) (fun _ => ?_)
      obtain ⟨w1, e1, C1, -⟩ := o_ss C hk
      rw [upd_2] at C1
      rw [pk_us] at e1
      refine am_aload_n dL_law_328 9 rfl ?_
      refine am_iload dL_law_329 0 rfl ?_
      have hc := om_setSteam (l := l) o (nI k)
      rw [e1] at hc
      obtain ⟨fs, hfs⟩ := ob_cell o
      refine mm_callV (As := [.int (nI k)]) (rest := []) dL_law_331 kML_200 rfl hfs rfl rfl (Nat.le_of_ble_eq_true rfl) (d2 := 6) (by omega) (k2 := 0) (Nat.zero_le _) (u2 := 0) (Nat.zero_le _) (hc) (fun r1 h1 q3 => ?_)
      obtain ⟨rfl, o1, g1⟩ := q3
      refine am_if_ge dL_law_334 (by decide : ((334 : Nat) : Int) + (5) = ((339 : Nat) : Int)) (fun _ => ?_) (fun zq => absurd (nI_pos' (by omega)) zq)
      have hKk := kF_ok (b_pr C1.1 hsh)
      have k7 := kF_7 (gBx (upd (rwD G) 2 (nI k)) sh) (dw G 0 9)
      refine am_aload_n dL_law_339 9 rfl ?_
      refine am_iload dL_law_340 5 rfl ?_
      refine am_callS (As := [.ref (gz G + 0), .int (nI sh)]) (rest := []) dL_law_342 kML_190 rfl rfl (Nat.le_of_ble_eq_true rfl) (d2 := 22) (by omega) (k2 := 0) (Nat.zero_le _) (u2 := 0) (Nat.zero_le _) (Nat.le_of_ble_eq_true rfl) (ctL_tried o1 C1 (by omega) (rw_u (rd_w G) (by decide)) hsh hKk) (fun r1 h2 q3 => ?_)
      obtain ⟨rfl, w2, o2, -, C2⟩ := q3
      refine am_istore dL_law_345 (by decide) (lv' := [(11, .int (nI (kF (gBx (upd (rwD G) 2 (nI k)) sh) (dw G 0 9)))), (10, .int (nI k)), (9, .int x), (8, .int (nI a1)), (7, .int c7), (6, .int c6), (5, .int (nI sh)), (4, .ref a), (3, .ref b), (2, .int (nI (dw G 0 9))), (1, .ref (gz G + 0)), (0, .ref (gB G))]) rfl ?_
      have fin : Tr l G mL_law d k0 u0 382 [(11, .int (nI (kF (gBx (upd (rwD G) 2 (nI k)) sh) (dw G 0 9)))), (10, .int (nI k)), (9, .int x), (8, .int (nI a1)), (7, .int c7), (6, .int c6), (5, .int (nI sh)), (4, .ref a), (3, .ref b), (2, .int (nI (dw G 0 9))), (1, .ref (gz G + 0)), (0, .ref (gB G))] [] h2 Q := by
        refine am_iload dL_law_382 1 rfl ?_
        refine am_iconst (v := 1) dL_law_384 (by decide) ?_
        refine am_aload_n dL_law_385 11 rfl ?_
        refine am_bipush (v := 22) dL_law_386 (by decide) ?_
        refine am_bipush (v := 20) dL_law_388 (by decide) ?_
        refine am_callS (As := [.ref (gB G), .int (nI 22), .int (nI 20)]) (rest := [.int 1, .int (nI k)]) dL_law_390 kML_34 rfl rfl (Nat.le_of_ble_eq_true rfl) (d2 := 0) (by omega) (k2 := 0) (Nat.zero_le _) (u2 := 0) (Nat.zero_le _) (Nat.le_of_ble_eq_true rfl) (ctL_draw (k := 22) (n := 20) hL (by omega) (by decide) (by decide)) (fun r1 h1 q3 => ?_)
        obtain ⟨rfl, rfl⟩ := q3
        refine am_iadd dL_law_393 ?_
        rw [show (1 : Int32) + nI (dw G 22 20) = nI (1 + dw G 22 20) from nI_add 1 _]
        refine am_iadd dL_law_394 ?_
        rw [show nI k + nI (1 + dw G 22 20) = nI (k + (1 + dw G 22 20)) from nI_add k _]
        refine am_istore dL_law_395 (by decide) (lv' := [(10, .int (nI (k + (1 + dw G 22 20)))), (11, .int (nI (kF (gBx (upd (rwD G) 2 (nI k)) sh) (dw G 0 9)))), (9, .int x), (8, .int (nI a1)), (7, .int c7), (6, .int c6), (5, .int (nI sh)), (4, .ref a), (3, .ref b), (2, .int (nI (dw G 0 9))), (1, .ref (gz G + 0)), (0, .ref (gB G))]) rfl ?_
        refine am_goto dL_law_397 (by decide : ((397 : Nat) : Int) + (-76) = ((321 : Nat) : Int)) ?_
        refine am_lv [0, 2, 3, 4, 5, 6, 7, 8, 9, 10, 11] rfl ?_
        exact ih (k + (1 + dw G 22 20)) (by omega) (by omega) _ w2 k o2 hk (ci_up C2 (by omega)) kk
      refine am_iload dL_law_347 0 rfl ?_
      refine am_iload dL_law_349 3 rfl ?_
      by_cases ca : a1 ≤ kF (gBx (upd (rwD G) 2 (nI k)) sh) (dw G 0 9)
      · refine am_icmp_lt dL_law_351 (by decide : ((351 : Nat) : Int) + (15) = ((366 : Nat) : Int)) (fun zq => absurd zq (nI_nlt ca (by omega))) (fun _ => ?_)
        rcases S with ⟨-, s2⟩ | ⟨t, t1, t2, t3, t4⟩
        · exact absurd (show kF (gBx (upd (rwD G) 2 (nI k)) sh) (dw G 0 9) < a1 from s2 k hk) (by omega)
        have tk : t ≤ k := by
          by_cases c : k < t
          · exact absurd (show kF (gBx (upd (rwD G) 2 (nI k)) sh) (dw G 0 9) < a1 from t4 k c) (by omega)
          · omega
        subst t2
        refine am_iload dL_law_354 2 rfl ?_
        refine am_if_lt dL_law_356 (by decide : ((356 : Nat) : Int) + (24) = ((380 : Nat) : Int)) (fun zq => absurd zq (nI_pos (by omega))) (fun _ => ?_)
        refine am_iload dL_law_359 1 rfl ?_
        refine am_iload dL_law_361 2 rfl ?_
        refine am_icmp_lt dL_law_363 (by decide : ((363 : Nat) : Int) + (17) = ((380 : Nat) : Int)) (fun zq => absurd zq (nI_nlt tk (by omega))) (fun _ => ?_)
        refine am_iload dL_law_366 1 rfl ?_
        refine am_iload dL_law_368 2 rfl ?_
        by_cases ct : t = k
        · refine am_icmp_ne dL_law_370 (by decide : ((370 : Nat) : Int) + (12) = ((382 : Nat) : Int)) (fun zq => absurd zq (fun z => z (by rw [ct]))) (fun _ => ?_)
          refine am_iload dL_law_373 0 rfl ?_
          refine am_iload dL_law_375 3 rfl ?_
          refine am_icmp_ge dL_law_377 (by decide : ((377 : Nat) : Int) + (5) = ((382 : Nat) : Int)) (fun _ => ?_) (fun zq => absurd (nI_le ca (by omega)) zq)
          exact fin
        · refine am_icmp_ne dL_law_370 (by decide : ((370 : Nat) : Int) + (12) = ((382 : Nat) : Int)) (fun _ => ?_) (fun zq => absurd zq (fun z => ct ((nI_eq (by omega) (by omega)).mp z).symm))
          exact fin
      · refine am_icmp_lt dL_law_351 (by decide : ((351 : Nat) : Int) + (15) = ((366 : Nat) : Int)) (fun _ => ?_) (fun zq => absurd (nI_lt (by omega) (by omega)) zq)
        refine am_iload dL_law_366 1 rfl ?_
        refine am_iload dL_law_368 2 rfl ?_
        refine am_icmp_ne dL_law_370 (by decide : ((370 : Nat) : Int) + (12) = ((382 : Nat) : Int)) (fun _ => ?_) (fun zq => absurd zq (fun z => by
          rcases S with ⟨s1, -⟩ | ⟨t, t1, t2, t3, -⟩
          · rw [s1] at z
            exact nI_pos (n := k) (by omega) (by rw [z]; decide)
          · rw [t2, nI_eq (by omega) (by omega)] at z
            subst z
            exact ca t3))
        exact fin
    · refine am_iload dL_law_321 0 rfl ?_
      refine am_bipush (v := 100) dL_law_323 (by decide) ?_
      refine am_icmp_gt dL_law_325 (by decide : ((325 : Nat) : Int) + (75) = ((400 : Nat) : Int)) (fun _ => ?_) (fun zq => absurd (nI_lt (a := 100) (by omega) (by omega)) zq)
      exact kk h w k g o hg (ci_up C (by omega))
/-- the row behind boarding all: o's and q's -/
noncomputable def rwB (G : GM) : Nat → Int32 := @ite _ (dw G 0 9 = 0) (instDecidableEqNat _ _) (rwD G) (gBx (rwD G) (dw G 20 (1 + dw G 1 3)))
theorem rwB_0 {G : GM} (h : dw G 0 9 = 0) : rwB G = rwD G := if_pos h
theorem rwB_1 {G : GM} (h : ¬ dw G 0 9 = 0) : rwB G = gBx (rwD G) (dw G 20 (1 + dw G 1 3)) := if_neg h
theorem dL_law_291 : decode cL_law 291 = .ok (.aload_n 1, 1) := by decide +kernel
theorem dL_law_292 : decode cL_law 292 = .ok (.invokevirtual 194, 3) := by decide +kernel
theorem dL_law_295 : decode cL_law 295 = .ok (.istore 7, 2) := by decide +kernel
theorem dL_law_297 : decode cL_law 297 = .ok (.iconst 1, 1) := by decide +kernel
theorem dL_law_298 : decode cL_law 298 = .ok (.aload_n 0, 1) := by decide +kernel
theorem dL_law_299 : decode cL_law 299 = .ok (.bipush 21, 2) := by decide +kernel
theorem dL_law_301 : decode cL_law 301 = .ok (.iconst 3, 1) := by decide +kernel
theorem dL_law_302 : decode cL_law 302 = .ok (.invokestatic 34, 3) := by decide +kernel
theorem dL_law_305 : decode cL_law 305 = .ok (.iadd, 1) := by decide +kernel
theorem dL_law_306 : decode cL_law 306 = .ok (.istore 8, 2) := by decide +kernel
theorem dL_law_308 : decode cL_law 308 = .ok (.aload_n 1, 1) := by decide +kernel
theorem dL_law_309 : decode cL_law 309 = .ok (.iload 5, 2) := by decide +kernel
theorem dL_law_311 : decode cL_law 311 = .ok (.iload 8, 2) := by decide +kernel
theorem dL_law_313 : decode cL_law 313 = .ok (.invokevirtual 196, 3) := by decide +kernel
theorem dL_law_316 : decode cL_law 316 = .ok (.istore 9, 2) := by decide +kernel
theorem dL_law_318 : decode cL_law 318 = .ok (.iconst 0, 1) := by decide +kernel
theorem dL_law_319 : decode cL_law 319 = .ok (.istore 10, 2) := by decide +kernel
theorem dL_law_400 : decode cL_law 400 = .ok (.iload 9, 2) := by decide +kernel
theorem dL_law_402 : decode cL_law 402 = .ok (.ifCond .lt 25, 3) := by decide +kernel
theorem dL_law_405 : decode cL_law 405 = .ok (.aload_n 1, 1) := by decide +kernel
theorem dL_law_406 : decode cL_law 406 = .ok (.iload 9, 2) := by decide +kernel
theorem dL_law_408 : decode cL_law 408 = .ok (.invokevirtual 200, 3) := by decide +kernel
theorem dL_law_411 : decode cL_law 411 = .ok (.ifCond .lt 14, 3) := by decide +kernel
theorem dL_law_414 : decode cL_law 414 = .ok (.aload_n 1, 1) := by decide +kernel
theorem dL_law_415 : decode cL_law 415 = .ok (.iload 5, 2) := by decide +kernel
theorem dL_law_417 : decode cL_law 417 = .ok (.invokestatic 190, 3) := by decide +kernel
theorem dL_law_420 : decode cL_law 420 = .ok (.iload 8, 2) := by decide +kernel
theorem dL_law_422 : decode cL_law 422 = .ok (.if_icmp .ge 5, 3) := by decide +kernel
theorem dL_law_427 : decode cL_law 427 = .ok (.aload_n 1, 1) := by decide +kernel
theorem dL_law_428 : decode cL_law 428 = .ok (.iload 7, 2) := by decide +kernel
theorem dL_law_430 : decode cL_law 430 = .ok (.invokevirtual 200, 3) := by decide +kernel
theorem dL_law_433 : decode cL_law 433 = .ok (.pop, 1) := by decide +kernel
theorem dL_law_434 : decode cL_law 434 = .ok (.iload_n 2, 1) := by decide +kernel
theorem dL_law_435 : decode cL_law 435 = .ok (.ifCond .le 14, 3) := by decide +kernel
theorem dL_law_438 : decode cL_law 438 = .ok (.aload_n 1, 1) := by decide +kernel
theorem dL_law_439 : decode cL_law 439 = .ok (.iload 5, 2) := by decide +kernel
theorem dL_law_441 : decode cL_law 441 = .ok (.invokevirtual 150, 3) := by decide +kernel
theorem dL_law_444 : decode cL_law 444 = .ok (.ifCond .ge 5, 3) := by decide +kernel
set_option maxRecDepth 20000 in
theorem sg_E (hL : gL G ≤ 260) {k0 u0 a b : Nat} {c7 c6 : Int32} {h : List va_E} {w : Wd} (hd : 23 ≤ d) (o : OB G h 0 w) (C : CD G 14 w (rwD G)) (kk : ∀ h1 w1, OB G h1 0 w1 → CD G 150 w1 (rwB G) → Tr l G mL_law d k0 u0 449 [(8, .int (nI (1 + dw G 21 3))), (5, .int (nI (dw G 20 (1 + dw G 1 3)))), (4, .ref a), (3, .ref b), (2, .int (nI (dw G 0 9))), (1, .ref (gz G + 0)), (0, .ref (gB G))] [] h1 Q) : Tr l G mL_law d k0 u0 291 [(7, .int c7), (6, .int c6), (5, .int (nI (dw G 20 (1 + dw G 1 3)))), (4, .ref a), (3, .ref b), (2, .int (nI (dw G 0 9))), (1, .ref (gz G + 0)), (0, .ref (gB G))] [] h Q := by
  have n1 := dw_lt G 1 (n := 3) (by decide)
  have hsh := dw_lt G 20 (n := 1 + dw G 1 3) (by omega)
  have n3 := dw_lt G 21 (n := 3) (by decide)
  have sg := stD_le G
  refine am_aload_n dL_law_291 6 rfl ?_
  have q1 := om_steam (l := l) o
  rw [show fX6_steam w = nI (stD G) from C.1.2.2.2.1.2.2.1.symm.trans (rd_2 G)] at q1
  obtain ⟨fs, hfs⟩ := ob_cell o
  refine mm_callV (As := []) (rest := []) dL_law_292 kML_194 rfl hfs rfl rfl (Nat.le_of_ble_eq_true rfl) (d2 := 0) (by omega) (k2 := 0) (Nat.zero_le _) (u2 := 0) (Nat.zero_le _) (q1) (fun r1 h0 q3 => ?_)
  obtain ⟨rfl, e0⟩ := q3
  subst e0
  refine am_istore dL_law_295 (by decide) (lv' := [(7, .int (nI (stD G))), (6, .int c6), (5, .int (nI (dw G 20 (1 + dw G 1 3)))), (4, .ref a), (3, .ref b), (2, .int (nI (dw G 0 9))), (1, .ref (gz G + 0)), (0, .ref (gB G))]) rfl ?_
  refine am_iconst (v := 1) dL_law_297 (by decide) ?_
  refine am_aload_n dL_law_298 7 rfl ?_
  refine am_bipush (v := 21) dL_law_299 (by decide) ?_
  refine am_iconst (v := 3) dL_law_301 (by decide) ?_
  refine am_callS (As := [.ref (gB G), .int (nI 21), .int (nI 3)]) (rest := [.int 1]) dL_law_302 kML_34 rfl rfl (Nat.le_of_ble_eq_true rfl) (d2 := 0) (by omega) (k2 := 0) (Nat.zero_le _) (u2 := 0) (Nat.zero_le _) (Nat.le_of_ble_eq_true rfl) (ctL_draw (k := 21) (n := 3) hL (by omega) (by decide) (by decide)) (fun r1 h1 q3 => ?_)
  obtain ⟨rfl, rfl⟩ := q3
  refine am_iadd dL_law_305 ?_
  rw [show (1 : Int32) + nI (dw G 21 3) = nI (1 + dw G 21 3) from nI_add 1 _]
  refine am_istore dL_law_306 (by decide) (lv' := [(8, .int (nI (1 + dw G 21 3))), (7, .int (nI (stD G))), (6, .int c6), (5, .int (nI (dw G 20 (1 + dw G 1 3)))), (4, .ref a), (3, .ref b), (2, .int (nI (dw G 0 9))), (1, .ref (gz G + 0)), (0, .ref (gB G))]) rfl ?_
  obtain ⟨x, w1, e1, S, C1, -⟩ := o_ls C (by omega) hsh (a := 1 + dw G 21 3) (by omega) (by omega) (K := fun t => kF (gBx (upd (rwD G) 2 (nI t)) (dw G 20 (1 + dw G 1 3))) (dw G 0 9)) (fun t ht => kF_ok (b_pr (st_pr C.1 ht) hsh))
  refine am_aload_n dL_law_308 7 rfl ?_
  refine am_iload dL_law_309 3 rfl ?_
  refine am_iload dL_law_311 0 rfl ?_
  have hc := om_leastSteam (l := l) o (nI (dw G 20 (1 + dw G 1 3))) (nI (1 + dw G 21 3))
  rw [e1] at hc
  obtain ⟨fs, hfs⟩ := ob_cell o
  refine mm_callV (As := [.int (nI (dw G 20 (1 + dw G 1 3))), .int (nI (1 + dw G 21 3))]) (rest := []) dL_law_313 kML_196 rfl hfs rfl rfl (Nat.le_of_ble_eq_true rfl) (d2 := 20) (by omega) (k2 := 0) (Nat.zero_le _) (u2 := 0) (Nat.zero_le _) (hc) (fun r1 h1 q3 => ?_)
  obtain ⟨rfl, o1, g1⟩ := q3
  refine am_istore dL_law_316 (by decide) (lv' := [(9, .int x), (8, .int (nI (1 + dw G 21 3))), (7, .int (nI (stD G))), (6, .int c6), (5, .int (nI (dw G 20 (1 + dw G 1 3)))), (4, .ref a), (3, .ref b), (2, .int (nI (dw G 0 9))), (1, .ref (gz G + 0)), (0, .ref (gB G))]) rfl ?_
  refine am_iconst (v := 0) dL_law_318 (by decide) ?_
  refine am_istore dL_law_319 (by decide) (lv' := [(10, .int 0), (9, .int x), (8, .int (nI (1 + dw G 21 3))), (7, .int (nI (stD G))), (6, .int c6), (5, .int (nI (dw G 20 (1 + dw G 1 3)))), (4, .ref a), (3, .ref b), (2, .int (nI (dw G 0 9))), (1, .ref (gz G + 0)), (0, .ref (gB G))]) rfl ?_
  refine sg_El hL hd hsh ⟨by omega, by omega⟩ S 101 0 (by omega) (by omega) _ w1 (stD G) o1 sg (by rw [upd_id (rwD G) 2 (rd_2 G)]; exact ci_up C1 (by omega)) (fun h2 w2 k2 g2 o2 hg2 C2 => ?_)
  have fin : ∀ h3 w3 g3, OB G h3 0 w3 → g3 ≤ 100 → CD G 143 w3 (upd (rwD G) 2 (nI g3)) → Tr l G mL_law d k0 u0 427 [(10, .int (nI k2)), (9, .int x), (8, .int (nI (1 + dw G 21 3))), (7, .int (nI (stD G))), (6, .int c6), (5, .int (nI (dw G 20 (1 + dw G 1 3)))), (4, .ref a), (3, .ref b), (2, .int (nI (dw G 0 9))), (1, .ref (gz G + 0)), (0, .ref (gB G))] [] h3 Q := by
    intro h3 w3 g3 o3 hg3 C3
    obtain ⟨w4, e4, C4, -⟩ := o_ss C3 sg
    rw [upd_2, upd_id (rwD G) 2 (rd_2 G)] at C4
    refine am_aload_n dL_law_427 9 rfl ?_
    refine am_iload dL_law_428 3 rfl ?_
    have hc := om_setSteam (l := l) o3 (nI (stD G))
    rw [e4] at hc
    obtain ⟨fs, hfs⟩ := ob_cell o3
    refine mm_callV (As := [.int (nI (stD G))]) (rest := []) dL_law_430 kML_200 rfl hfs rfl rfl (Nat.le_of_ble_eq_true rfl) (d2 := 6) (by omega) (k2 := 0) (Nat.zero_le _) (u2 := 0) (Nat.zero_le _) (hc) (fun r1 h4 q3 => ?_)
    obtain ⟨rfl, o4, g4⟩ := q3
    refine am_pop dL_law_433 rfl ?_
    refine am_iload_n dL_law_434 8 rfl ?_
    have np9 := dw_lt G 0 (n := 9) (by decide)
    by_cases c0 : dw G 0 9 = 0
    · refine am_if_le dL_law_435 (by decide : ((435 : Nat) : Int) + (14) = ((449 : Nat) : Int)) (fun _ => ?_) (fun zq => absurd (by rw [c0]; decide) zq)
      refine am_lv [2, 5, 6, 7, 8, 9, 10] rfl ?_
      exact kk _ w4 o4 (by rw [rwB_0 c0]; exact ci_up C4 (by omega))
    · refine am_if_le dL_law_435 (by decide : ((435 : Nat) : Int) + (14) = ((449 : Nat) : Int)) (fun zq => absurd zq (nI_nle (by omega) (by omega))) (fun _ => ?_)
      obtain ⟨i, w5, e5, i5, C5, -⟩ := o_ba C4 hsh (rd_w G) (by omega)
      refine am_aload_n dL_law_438 9 rfl ?_
      refine am_iload dL_law_439 5 rfl ?_
      have hc := om_boardAll (l := l) o4 (nI (dw G 20 (1 + dw G 1 3)))
      rw [e5] at hc
      obtain ⟨fs, hfs⟩ := ob_cell o4
      refine mm_callV (As := [.int (nI (dw G 20 (1 + dw G 1 3)))]) (rest := []) dL_law_441 kML_150 rfl hfs rfl rfl (Nat.le_of_ble_eq_true rfl) (d2 := 6) (by omega) (k2 := 0) (Nat.zero_le _) (u2 := 0) (Nat.zero_le _) (hc) (fun r1 h5 q3 => ?_)
      obtain ⟨rfl, o5, g5⟩ := q3
      refine am_if_ge dL_law_444 (by decide : ((444 : Nat) : Int) + (5) = ((449 : Nat) : Int)) (fun _ => ?_) (fun zq => absurd (nI_pos' (by omega)) zq)
      refine am_lv [2, 5, 6, 7, 8, 9, 10] rfl ?_
      exact kk _ w5 o5 (by rw [rwB_1 c0]; exact ci_up C5 (by omega))
  refine am_iload dL_law_400 1 rfl ?_
  rcases S with ⟨s1, -⟩ | ⟨t, t1, t2, t3, -⟩
  · subst s1
    refine am_if_lt dL_law_402 (by decide : ((402 : Nat) : Int) + (25) = ((427 : Nat) : Int)) (fun _ => ?_) (fun zq => absurd (by decide) zq)
    exact fin _ w2 g2 o2 hg2 (ci_up C2 (by omega))
  · subst t2
    refine am_if_lt dL_law_402 (by decide : ((402 : Nat) : Int) + (25) = ((427 : Nat) : Int)) (fun zq => absurd zq (nI_pos (by omega))) (fun _ => ?_)
    obtain ⟨w5, e5, C5, -⟩ := o_ss C2 t1
    rw [upd_2] at C5
    rw [pk_us] at e5
    refine am_aload_n dL_law_405 9 rfl ?_
    refine am_iload dL_law_406 1 rfl ?_
    have hc := om_setSteam (l := l) o2 (nI t)
    rw [e5] at hc
    obtain ⟨fs, hfs⟩ := ob_cell o2
    refine mm_callV (As := [.int (nI t)]) (rest := []) dL_law_408 kML_200 rfl hfs rfl rfl (Nat.le_of_ble_eq_true rfl) (d2 := 6) (by omega) (k2 := 0) (Nat.zero_le _) (u2 := 0) (Nat.zero_le _) (hc) (fun r1 h5 q3 => ?_)
    obtain ⟨rfl, o5, g5⟩ := q3
    refine am_if_lt dL_law_411 (by decide : ((411 : Nat) : Int) + (14) = ((425 : Nat) : Int)) (fun zq => absurd zq (nI_pos (by omega))) (fun _ => ?_)
    have hKk := kF_ok (b_pr C5.1 hsh)
    have k7 := kF_7 (gBx (upd (rwD G) 2 (nI t)) (dw G 20 (1 + dw G 1 3))) (dw G 0 9)
    refine am_aload_n dL_law_414 9 rfl ?_
    refine am_iload dL_law_415 5 rfl ?_
    refine am_callS (As := [.ref (gz G + 0), .int (nI (dw G 20 (1 + dw G 1 3)))]) (rest := []) dL_law_417 kML_190 rfl rfl (Nat.le_of_ble_eq_true rfl) (d2 := 22) (by omega) (k2 := 0) (Nat.zero_le _) (u2 := 0) (Nat.zero_le _) (Nat.le_of_ble_eq_true rfl) (ctL_tried o5 C5 (by omega) (rw_u (rd_w G) (by decide)) hsh hKk) (fun r1 h6 q3 => ?_)
    obtain ⟨rfl, w6, o6, -, C6⟩ := q3
    refine am_iload dL_law_420 2 rfl ?_
    refine am_icmp_ge dL_law_422 (by decide : ((422 : Nat) : Int) + (5) = ((427 : Nat) : Int)) (fun _ => ?_) (fun zq => absurd (nI_le (show 1 + dw G 21 3 ≤ kF (gBx (upd (rwD G) 2 (nI t)) (dw G 20 (1 + dw G 1 3))) (dw G 0 9) from t3) (by omega)) zq)
    exact fin _ w6 t o6 t1 (ci_up C6 (by omega))
end LAW
