/-! The law: day by day on a second object. -/
section LAW
variable {l : Launch} {G : GM} {d : Nat} {Q : Option Value → List va_E → Prop}
theorem dL_law_547 : decode cL_law 547 = .ok (.iload 14, 2) := by decide +kernel
theorem dL_law_549 : decode cL_law 549 = .ok (.iload 10, 2) := by decide +kernel
theorem dL_law_551 : decode cL_law 551 = .ok (.if_icmp .gt 58, 3) := by decide +kernel
theorem dL_law_554 : decode cL_law 554 = .ok (.aload 13, 2) := by decide +kernel
theorem dL_law_556 : decode cL_law 556 = .ok (.invokevirtual 153, 3) := by decide +kernel
theorem dL_law_559 : decode cL_law 559 = .ok (.istore 15, 2) := by decide +kernel
theorem dL_law_561 : decode cL_law 561 = .ok (.aload_n 1, 1) := by decide +kernel
theorem dL_law_562 : decode cL_law 562 = .ok (.iload 14, 2) := by decide +kernel
theorem dL_law_564 : decode cL_law 564 = .ok (.invokevirtual 206, 3) := by decide +kernel
theorem dL_law_567 : decode cL_law 567 = .ok (.iload 15, 2) := by decide +kernel
theorem dL_law_569 : decode cL_law 569 = .ok (.if_icmp .ne 32, 3) := by decide +kernel
theorem dL_law_572 : decode cL_law 572 = .ok (.iload 15, 2) := by decide +kernel
theorem dL_law_574 : decode cL_law 574 = .ok (.iload 12, 2) := by decide +kernel
theorem dL_law_576 : decode cL_law 576 = .ok (.if_icmp .gt 25, 3) := by decide +kernel
theorem dL_law_579 : decode cL_law 579 = .ok (.iload 15, 2) := by decide +kernel
theorem dL_law_581 : decode cL_law 581 = .ok (.iload 12, 2) := by decide +kernel
theorem dL_law_583 : decode cL_law 583 = .ok (.if_icmp .ne 10, 3) := by decide +kernel
theorem dL_law_586 : decode cL_law 586 = .ok (.iload 14, 2) := by decide +kernel
theorem dL_law_588 : decode cL_law 588 = .ok (.iload 11, 2) := by decide +kernel
theorem dL_law_590 : decode cL_law 590 = .ok (.if_icmp .lt 11, 3) := by decide +kernel
theorem dL_law_593 : decode cL_law 593 = .ok (.aload 13, 2) := by decide +kernel
theorem dL_law_595 : decode cL_law 595 = .ok (.invokevirtual 209, 3) := by decide +kernel
theorem dL_law_598 : decode cL_law 598 = .ok (.ifCond .ge 5, 3) := by decide +kernel
theorem dL_law_603 : decode cL_law 603 = .ok (.iinc 14 1, 3) := by decide +kernel
theorem dL_law_606 : decode cL_law 606 = .ok (.goto (-59), 3) := by decide +kernel
set_option maxRecDepth 20000 in
theorem sg_Gl {k0 u0 a b B1 bd : Nat} {p : Pl} {x1 x2 x3 : Nat} (hd : 23 ≤ d) (CQ0 : hz_PR p (rwB G) x1 x2 x3 (dw G 0 9)) (A : am (kD G) (dw G 23 6 + 1) bd) : ∀ (r k : Nat), k + r = dw G 23 6 + 1 → ∀ (h : List va_E) (w wq : Wd), OB G h 0 w → CD G (152 + k) w (rwB G) → OB G h B1 wq → CD G k wq (itD (rwB G) k) → SEP 0 w B1 wq → (∀ h1 w1, OB G h1 0 w1 → CD G 159 w1 (rwB G) → Tr l G mL_law d k0 u0 609 [(8, .int (nI (1 + dw G 21 3))), (5, .int (nI (dw G 20 (1 + dw G 1 3)))), (4, .ref a), (3, .ref b), (2, .int (nI (dw G 0 9))), (1, .ref (gz G + 0)), (0, .ref (gB G))] [] h1 Q) → Tr l G mL_law d k0 u0 547 [(14, .int (nI k)), (13, .ref (gz G + B1)), (12, .int (nI (kD G bd))), (11, .int (nI bd)), (10, .int (nI (dw G 23 6))), (8, .int (nI (1 + dw G 21 3))), (5, .int (nI (dw G 20 (1 + dw G 1 3)))), (4, .ref a), (3, .ref b), (2, .int (nI (dw G 0 9))), (1, .ref (gz G + 0)), (0, .ref (gB G))] [] h Q := by
  have n6 := dw_lt G 23 (n := 6) (by decide)
  intro r
  induction r with
  | zero =>
    intro k hk h w wq o C oq Cq sp kk
    refine am_iload dL_law_547 0 rfl ?_
    refine am_iload dL_law_549 4 rfl ?_
    refine am_icmp_gt dL_law_551 (by decide : ((551 : Nat) : Int) + (58) = ((609 : Nat) : Int)) (fun _ => ?_) (fun zq => absurd (nI_lt (by omega) (by omega)) zq)
    refine am_lv [5, 6, 7, 8, 9, 10, 11] rfl ?_
    exact kk h w o (ci_up C (by omega))
  | succ r ih =>
    intro k hk h w wq o C oq Cq sp kk
    refine am_iload dL_law_547 0 rfl ?_
    refine am_iload dL_law_549 4 rfl ?_
    refine am_icmp_gt dL_law_551 (by decide : ((551 : Nat) : Int) + (58) = ((609 : Nat) : Int)) (fun zq => absurd zq (nI_nlt (by omega) (by omega))) (fun _ => ?_)
    have hk := it_kf CQ0 k
    have k7 := kF_7 (itD (rwB G) k) (dw G 0 9)
    have b7 := kF_7 (itD (rwB G) bd) (dw G 0 9)
    have A1 := A.1
    obtain ⟨w1, e1, -, C1, -⟩ := o_pc Cq (by omega) (K := kD G k) hk
    refine am_aload dL_law_554 1 rfl ?_
    have hc := om_pairCount (l := l) oq
    rw [e1] at hc
    obtain ⟨fs, hfs⟩ := ob_cell oq
    refine mm_callV (As := []) (rest := []) dL_law_556 kML_153 rfl hfs rfl rfl (Nat.le_of_ble_eq_true rfl) (d2 := 21) (by omega) (k2 := 0) (Nat.zero_le _) (u2 := 0) (Nat.zero_le _) (hc) (fun r1 h1 q3 => ?_)
    obtain ⟨rfl, p1, f1⟩ := q3
    obtain ⟨o1, s1⟩ := sep_hi sp o f1
    refine am_istore dL_law_559 (by decide) (lv' := [(15, .int (nI (kD G k))), (14, .int (nI k)), (13, .ref (gz G + B1)), (12, .int (nI (kD G bd))), (11, .int (nI bd)), (10, .int (nI (dw G 23 6))), (8, .int (nI (1 + dw G 21 3))), (5, .int (nI (dw G 20 (1 + dw G 1 3)))), (4, .ref a), (3, .ref b), (2, .int (nI (dw G 0 9))), (1, .ref (gz G + 0)), (0, .ref (gB G))]) rfl ?_
    obtain ⟨w2, e2, -, C2, -⟩ := o_id C (by omega) (D := k) (by omega) (K := kD G k) hk
    refine am_aload_n dL_law_561 11 rfl ?_
    refine am_iload dL_law_562 1 rfl ?_
    have hc := om_ifDays (l := l) o1 (nI k)
    rw [e2] at hc
    obtain ⟨fs, hfs⟩ := ob_cell o1
    refine mm_callV (As := [.int (nI k)]) (rest := []) dL_law_564 kML_206 rfl hfs rfl rfl (Nat.le_of_ble_eq_true rfl) (d2 := 19) (by omega) (k2 := 0) (Nat.zero_le _) (u2 := 0) (Nat.zero_le _) (hc) (fun r1 h2 q3 => ?_)
    obtain ⟨rfl, o2, g2⟩ := q3
    obtain ⟨p2, s2⟩ := sep_lo s1 p1 g2
    refine am_iload dL_law_567 0 rfl ?_
    refine am_icmp_ne dL_law_569 (by decide : ((569 : Nat) : Int) + (32) = ((601 : Nat) : Int)) (fun zq => absurd zq (fun z => z rfl)) (fun _ => ?_)
    refine am_iload dL_law_572 0 rfl ?_
    refine am_iload dL_law_574 3 rfl ?_
    refine am_icmp_gt dL_law_576 (by decide : ((576 : Nat) : Int) + (25) = ((601 : Nat) : Int)) (fun zq => absurd zq (nI_nlt (A.2 k (by omega)).1 (by unfold kD; omega))) (fun _ => ?_)
    refine am_iload dL_law_579 0 rfl ?_
    refine am_iload dL_law_581 3 rfl ?_
    have fin : Tr l G mL_law d k0 u0 593 [(15, .int (nI (kD G k))), (14, .int (nI k)), (13, .ref (gz G + B1)), (12, .int (nI (kD G bd))), (11, .int (nI bd)), (10, .int (nI (dw G 23 6))), (8, .int (nI (1 + dw G 21 3))), (5, .int (nI (dw G 20 (1 + dw G 1 3)))), (4, .ref a), (3, .ref b), (2, .int (nI (dw G 0 9))), (1, .ref (gz G + 0)), (0, .ref (gB G))] [] h2 Q := by
      obtain ⟨i, w3, e3, i3, C3⟩ := o_dy C1
      refine am_aload dL_law_593 2 rfl ?_
      have hc := om_day (l := l) p2
      rw [e3] at hc
      obtain ⟨fs, hfs⟩ := ob_cell p2
      refine mm_callV (As := []) (rest := []) dL_law_595 kML_209 rfl hfs rfl rfl (Nat.le_of_ble_eq_true rfl) (d2 := 6) (by omega) (k2 := 0) (Nat.zero_le _) (u2 := 0) (Nat.zero_le _) (hc) (fun r1 h3 q3 => ?_)
      obtain ⟨rfl, p3, f3⟩ := q3
      obtain ⟨o3, s3⟩ := sep_hi s2 o2 f3
      refine am_if_ge dL_law_598 (by decide : ((598 : Nat) : Int) + (5) = ((603 : Nat) : Int)) (fun _ => ?_) (fun zq => absurd (nI_pos' (by omega)) zq)
      refine am_iinc (v := (nI (k + 1))) dL_law_603 1 rfl (nI_1 k) (by decide) (lv' := [(14, .int (nI (k + 1))), (15, .int (nI (kD G k))), (13, .ref (gz G + B1)), (12, .int (nI (kD G bd))), (11, .int (nI bd)), (10, .int (nI (dw G 23 6))), (8, .int (nI (1 + dw G 21 3))), (5, .int (nI (dw G 20 (1 + dw G 1 3)))), (4, .ref a), (3, .ref b), (2, .int (nI (dw G 0 9))), (1, .ref (gz G + 0)), (0, .ref (gB G))]) rfl ?_
      refine am_goto dL_law_606 (by decide : ((606 : Nat) : Int) + (-59) = ((547 : Nat) : Int)) ?_
      refine am_lv [0, 2, 3, 4, 5, 6, 7, 8, 9, 10, 11, 12] rfl ?_
      exact ih (k + 1) (by omega) _ w2 w3 o3 (ci_up C2 (by omega)) p3 (ci_up C3 (by omega)) s3 kk
    by_cases ce : kD G k = kD G bd
    · refine am_icmp_ne dL_law_583 (by decide : ((583 : Nat) : Int) + (10) = ((593 : Nat) : Int)) (fun zq => absurd zq (fun z => z (by rw [ce]))) (fun _ => ?_)
      refine am_iload dL_law_586 1 rfl ?_
      refine am_iload dL_law_588 4 rfl ?_
      refine am_icmp_lt dL_law_590 (by decide : ((590 : Nat) : Int) + (11) = ((601 : Nat) : Int)) (fun zq => absurd zq (nI_nlt ((A.2 k (by omega)).2 ce) (by omega))) (fun _ => ?_)
      exact fin
    · refine am_icmp_ne dL_law_583 (by decide : ((583 : Nat) : Int) + (10) = ((593 : Nat) : Int)) (fun _ => ?_) (fun zq => absurd zq (fun z => ce ((nI_eq (by unfold kD; omega) (by unfold kD; omega)).mp z)))
      exact fin
theorem dL_law_510 : decode cL_law 510 = .ok (.new 25, 3) := by decide +kernel
theorem dL_law_513 : decode cL_law 513 = .ok (.dup, 1) := by decide +kernel
theorem dL_law_514 : decode cL_law 514 = .ok (.invokespecial 159, 3) := by decide +kernel
theorem dL_law_517 : decode cL_law 517 = .ok (.astore 13, 2) := by decide +kernel
theorem dL_law_519 : decode cL_law 519 = .ok (.aload 13, 2) := by decide +kernel
theorem dL_law_521 : decode cL_law 521 = .ok (.aload_n 0, 1) := by decide +kernel
theorem dL_law_522 : decode cL_law 522 = .ok (.invokestatic 170, 3) := by decide +kernel
theorem dL_law_525 : decode cL_law 525 = .ok (.ifCond .eq 17, 3) := by decide +kernel
theorem dL_law_528 : decode cL_law 528 = .ok (.iload_n 2, 1) := by decide +kernel
theorem dL_law_529 : decode cL_law 529 = .ok (.ifCond .le 15, 3) := by decide +kernel
theorem dL_law_532 : decode cL_law 532 = .ok (.aload 13, 2) := by decide +kernel
theorem dL_law_534 : decode cL_law 534 = .ok (.iload 5, 2) := by decide +kernel
theorem dL_law_536 : decode cL_law 536 = .ok (.invokevirtual 150, 3) := by decide +kernel
theorem dL_law_539 : decode cL_law 539 = .ok (.ifCond .ge 5, 3) := by decide +kernel
theorem dL_law_544 : decode cL_law 544 = .ok (.iconst 0, 1) := by decide +kernel
theorem dL_law_545 : decode cL_law 545 = .ok (.istore 14, 2) := by decide +kernel
set_option maxRecDepth 20000 in
theorem sg_G (hL : gL G ≤ 260) {k0 u0 a b bd : Nat} {h : List va_E} {w : Wd} (hd : 23 ≤ d) (o : OB G h 0 w) (C : CD G 152 w (rwB G)) (A : am (kD G) (dw G 23 6 + 1) bd) (kk : ∀ h1 w1, OB G h1 0 w1 → CD G 159 w1 (rwB G) → Tr l G mL_law d k0 u0 609 [(8, .int (nI (1 + dw G 21 3))), (5, .int (nI (dw G 20 (1 + dw G 1 3)))), (4, .ref a), (3, .ref b), (2, .int (nI (dw G 0 9))), (1, .ref (gz G + 0)), (0, .ref (gB G))] [] h1 Q) : Tr l G mL_law d (k0 + 400) (u0 + 260000) 510 [(12, .int (nI (kD G bd))), (11, .int (nI bd)), (10, .int (nI (dw G 23 6))), (8, .int (nI (1 + dw G 21 3))), (5, .int (nI (dw G 20 (1 + dw G 1 3)))), (4, .ref a), (3, .ref b), (2, .int (nI (dw G 0 9))), (1, .ref (gz G + 0)), (0, .ref (gB G))] [] h Q := by
  have np9 := dw_lt G 0 (n := 9) (by decide)
  have n1 := dw_lt G 1 (n := 3) (by decide)
  have hsh := dw_lt G 20 (n := 1 + dw G 1 3) (by omega)
  obtain ⟨B1, hB1⟩ : ∃ B1, h.length = B1 := ⟨_, rfl⟩
  refine am_newL (n := B1) hB1 (k1 := k0 + 399) (u1 := u0 + 259991) dL_law_510 kNL_25 (by omega) (by omega) ?_
  have x1 : (h ++ [(.inr (7, [.null, .int 0, .null, .null, .null, .null, .null, .null, .null]) : va_E)])[B1]? = some (.inr (7, [.null, .int 0, .null, .null, .null, .null, .null, .null, .null])) := hs_newc hB1
  have x2 : (h ++ [(.inr (7, [.null, .int 0, .null, .null, .null, .null, .null, .null, .null]) : va_E)]).length = B1 + 1 := by rw [List.length_append, hB1]; rfl
  refine am_dup dL_law_513 rfl ?_
  refine mm_callI (As := []) (rest := [.ref (gz G + B1)]) dL_law_514 kML_159 rfl rfl (Nat.le_of_ble_eq_true rfl) (d2 := 4) (by omega) (k2 := 220) (by omega) (u2 := 11749) (by omega) (om_init (B := B1) x2 x1) (fun r1 h1 q3 => ?_)
  obtain ⟨rfl, n1, kp1, p1⟩ := q3
  have o1 : OB G h1 0 w := ob_kp o (by omega) (fun a ha => by rw [kp1 a (by omega), List.getElem?_append_left ha])
  have s1 : SEP 0 w B1 wz0 := sep_new o hB1.symm
  refine am_astore dL_law_517 (by decide) (lv' := [(13, .ref (gz G + B1)), (12, .int (nI (kD G bd))), (11, .int (nI bd)), (10, .int (nI (dw G 23 6))), (8, .int (nI (1 + dw G 21 3))), (5, .int (nI (dw G 20 (1 + dw G 1 3)))), (4, .ref a), (3, .ref b), (2, .int (nI (dw G 0 9))), (1, .ref (gz G + 0)), (0, .ref (gB G))]) rfl ?_
  refine am_aload dL_law_519 0 rfl ?_
  refine am_aload_n dL_law_521 10 rfl ?_
  refine am_callS (As := [.ref (gz G + B1), .ref (gB G)]) (rest := []) dL_law_522 kML_170 rfl rfl (Nat.le_of_ble_eq_true rfl) (d2 := 10) (by omega) (k2 := 123) (by omega) (u2 := 233324) (by omega) (Nat.le_of_ble_eq_true rfl) (ctL_load hL p1 ci_0 rfl) (fun r1 h2 q3 => ?_)
  obtain ⟨rfl, w2, p2, f2, D2, -, -⟩ := q3
  obtain ⟨o2, s2⟩ := sep_hi s1 o1 f2
  refine am_if_eq dL_law_525 (by decide : ((525 : Nat) : Int) + (17) = ((542 : Nat) : Int)) (fun zq => absurd zq (by decide)) (fun _ => ?_)
  refine am_room (k1 := k0) (u1 := u0) ?_ (by omega) (by omega)
  have fin : ∀ h3 w3, OB G h3 0 w → OB G h3 B1 w3 → CD G 0 w3 (rwB G) → SEP 0 w B1 w3 → Tr l G mL_law d k0 u0 544 [(13, .ref (gz G + B1)), (12, .int (nI (kD G bd))), (11, .int (nI bd)), (10, .int (nI (dw G 23 6))), (8, .int (nI (1 + dw G 21 3))), (5, .int (nI (dw G 20 (1 + dw G 1 3)))), (4, .ref a), (3, .ref b), (2, .int (nI (dw G 0 9))), (1, .ref (gz G + 0)), (0, .ref (gB G))] [] h3 Q := by
    intro h3 w3 o3 p3 C3 s3
    refine am_iconst (v := 0) dL_law_544 (by decide) ?_
    refine am_istore dL_law_545 (by decide) (lv' := [(14, .int 0), (13, .ref (gz G + B1)), (12, .int (nI (kD G bd))), (11, .int (nI bd)), (10, .int (nI (dw G 23 6))), (8, .int (nI (1 + dw G 21 3))), (5, .int (nI (dw G 20 (1 + dw G 1 3)))), (4, .ref a), (3, .ref b), (2, .int (nI (dw G 0 9))), (1, .ref (gz G + 0)), (0, .ref (gB G))]) rfl ?_
    exact sg_Gl hd C.1 A (dw G 23 6 + 1) 0 (Nat.zero_add _) _ w w3 o3 (ci_up C (by omega)) p3 C3 s3 kk
  refine am_iload_n dL_law_528 8 rfl ?_
  by_cases c0 : dw G 0 9 = 0
  · refine am_if_le dL_law_529 (by decide : ((529 : Nat) : Int) + (15) = ((544 : Nat) : Int)) (fun _ => ?_) (fun zq => absurd (by rw [c0]; decide) zq)
    exact fin _ w2 o2 p2 (by rw [rwB_0 c0]; exact D2.1) s2
  · refine am_if_le dL_law_529 (by decide : ((529 : Nat) : Int) + (15) = ((544 : Nat) : Int)) (fun zq => absurd zq (nI_nle (by omega) (by omega))) (fun _ => ?_)
    obtain ⟨i, w5, e5, i5, C5, -⟩ := o_ba D2.1 hsh (rd_w G) (by omega)
    refine am_aload dL_law_532 0 rfl ?_
    refine am_iload dL_law_534 5 rfl ?_
    have hc := om_boardAll (l := l) p2 (nI (dw G 20 (1 + dw G 1 3)))
    rw [e5] at hc
    obtain ⟨fs, hfs⟩ := ob_cell p2
    refine mm_callV (As := [.int (nI (dw G 20 (1 + dw G 1 3)))]) (rest := []) dL_law_536 kML_150 rfl hfs rfl rfl (Nat.le_of_ble_eq_true rfl) (d2 := 6) (by omega) (k2 := 0) (Nat.zero_le _) (u2 := 0) (Nat.zero_le _) (hc) (fun r1 h5 q3 => ?_)
    obtain ⟨rfl, p5, f5⟩ := q3
    obtain ⟨o5, s5⟩ := sep_hi s2 o2 f5
    refine am_if_ge dL_law_539 (by decide : ((539 : Nat) : Int) + (5) = ((544 : Nat) : Int)) (fun _ => ?_) (fun zq => absurd (nI_pos' (by omega)) zq)
    exact fin _ w5 o5 p5 (by rw [rwB_1 c0]; exact C5) s5
end LAW
