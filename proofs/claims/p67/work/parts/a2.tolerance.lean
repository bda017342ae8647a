/-! The law: the least tolerance. -/
theorem upd_4 (f : Nat → Int32) (a b x y : Int32) : upd (upd (upd (upd f 0 a) 1 b) 0 x) 1 y = upd (upd f 0 x) 1 y := by
  funext j
  unfold upd
  by_cases c1 : j = 1
  · rw [if_pos c1, if_pos c1]
  · rw [if_neg c1, if_neg c1]
    by_cases c0 : j = 0
    · rw [if_pos c0, if_pos c0, if_neg c1]
    · rw [if_neg c0, if_neg c0, if_neg c1, if_neg c0]
theorem upd_b {f : Nat → Int32} {x y : Int32} (h0 : f 0 = x) (h1 : f 1 = y) : upd (upd f 0 x) 1 y = f := by
  rw [upd_id f 0 h0, upd_id f 1 h1]
theorem upd_00 (f : Nat → Int32) (a b : Int32) : upd (upd f 0 a) 1 b 0 = a := rfl
theorem sl_bad (w : Wd) : fX6_setTolerance w 501 0 = (-2, w) := if_pos (show fX6_areTolerances 501 0 = 0 by decide)
theorem lt_bad (w : Wd) : fX6_leastTolerance w 8 = (-2, w) := if_pos (show fX6_isBetween 8 1 7 = 0 by decide)
section LAW
variable {l : Launch} {G : GM} {d : Nat} {Q : Option Value → List va_E → Prop}
theorem dL_law_609 : decode cL_law 609 = .ok (.aload_n 1, 1) := by decide +kernel
theorem dL_law_610 : decode cL_law 610 = .ok (.invokevirtual 212, 3) := by decide +kernel
theorem dL_law_613 : decode cL_law 613 = .ok (.istore 14, 2) := by decide +kernel
theorem dL_law_615 : decode cL_law 615 = .ok (.aload_n 1, 1) := by decide +kernel
theorem dL_law_616 : decode cL_law 616 = .ok (.invokevirtual 215, 3) := by decide +kernel
theorem dL_law_619 : decode cL_law 619 = .ok (.istore 15, 2) := by decide +kernel
theorem dL_law_621 : decode cL_law 621 = .ok (.aload_n 1, 1) := by decide +kernel
theorem dL_law_622 : decode cL_law 622 = .ok (.iload 8, 2) := by decide +kernel
theorem dL_law_624 : decode cL_law 624 = .ok (.invokevirtual 218, 3) := by decide +kernel
theorem dL_law_627 : decode cL_law 627 = .ok (.istore 16, 2) := by decide +kernel
theorem dL_law_629 : decode cL_law 629 = .ok (.iload 16, 2) := by decide +kernel
theorem dL_law_631 : decode cL_law 631 = .ok (.ifCond .ge 28, 3) := by decide +kernel
theorem dL_law_634 : decode cL_law 634 = .ok (.aload_n 1, 1) := by decide +kernel
theorem dL_law_635 : decode cL_law 635 = .ok (.sipush 500, 3) := by decide +kernel
theorem dL_law_638 : decode cL_law 638 = .ok (.iload 15, 2) := by decide +kernel
theorem dL_law_640 : decode cL_law 640 = .ok (.invokevirtual 221, 3) := by decide +kernel
theorem dL_law_643 : decode cL_law 643 = .ok (.iload 14, 2) := by decide +kernel
theorem dL_law_645 : decode cL_law 645 = .ok (.if_icmp .ne 12, 3) := by decide +kernel
theorem dL_law_648 : decode cL_law 648 = .ok (.aload_n 1, 1) := by decide +kernel
theorem dL_law_649 : decode cL_law 649 = .ok (.invokevirtual 153, 3) := by decide +kernel
theorem dL_law_652 : decode cL_law 652 = .ok (.iload 8, 2) := by decide +kernel
theorem dL_law_654 : decode cL_law 654 = .ok (.if_icmp .lt 5, 3) := by decide +kernel
theorem dL_law_659 : decode cL_law 659 = .ok (.iload 16, 2) := by decide +kernel
theorem dL_law_661 : decode cL_law 661 = .ok (.ifCond .lt 27, 3) := by decide +kernel
theorem dL_law_664 : decode cL_law 664 = .ok (.aload_n 1, 1) := by decide +kernel
theorem dL_law_665 : decode cL_law 665 = .ok (.iload 16, 2) := by decide +kernel
theorem dL_law_667 : decode cL_law 667 = .ok (.iload 15, 2) := by decide +kernel
theorem dL_law_669 : decode cL_law 669 = .ok (.invokevirtual 221, 3) := by decide +kernel
theorem dL_law_672 : decode cL_law 672 = .ok (.iload 14, 2) := by decide +kernel
theorem dL_law_674 : decode cL_law 674 = .ok (.if_icmp .ne 12, 3) := by decide +kernel
theorem dL_law_677 : decode cL_law 677 = .ok (.aload_n 1, 1) := by decide +kernel
theorem dL_law_678 : decode cL_law 678 = .ok (.invokevirtual 153, 3) := by decide +kernel
theorem dL_law_681 : decode cL_law 681 = .ok (.iload 8, 2) := by decide +kernel
theorem dL_law_683 : decode cL_law 683 = .ok (.if_icmp .ge 5, 3) := by decide +kernel
theorem dL_law_688 : decode cL_law 688 = .ok (.iload 16, 2) := by decide +kernel
theorem dL_law_690 : decode cL_law 690 = .ok (.ifCond .le 29, 3) := by decide +kernel
theorem dL_law_693 : decode cL_law 693 = .ok (.aload_n 1, 1) := by decide +kernel
theorem dL_law_694 : decode cL_law 694 = .ok (.iload 16, 2) := by decide +kernel
theorem dL_law_696 : decode cL_law 696 = .ok (.iconst 1, 1) := by decide +kernel
theorem dL_law_697 : decode cL_law 697 = .ok (.isub, 1) := by decide +kernel
theorem dL_law_698 : decode cL_law 698 = .ok (.iload 15, 2) := by decide +kernel
theorem dL_law_700 : decode cL_law 700 = .ok (.invokevirtual 221, 3) := by decide +kernel
theorem dL_law_703 : decode cL_law 703 = .ok (.iload 16, 2) := by decide +kernel
theorem dL_law_705 : decode cL_law 705 = .ok (.if_icmp .ne 12, 3) := by decide +kernel
theorem dL_law_708 : decode cL_law 708 = .ok (.aload_n 1, 1) := by decide +kernel
theorem dL_law_709 : decode cL_law 709 = .ok (.invokevirtual 153, 3) := by decide +kernel
theorem dL_law_712 : decode cL_law 712 = .ok (.iload 8, 2) := by decide +kernel
theorem dL_law_714 : decode cL_law 714 = .ok (.if_icmp .lt 5, 3) := by decide +kernel
theorem dL_law_719 : decode cL_law 719 = .ok (.aload_n 1, 1) := by decide +kernel
theorem dL_law_720 : decode cL_law 720 = .ok (.iload 14, 2) := by decide +kernel
theorem dL_law_722 : decode cL_law 722 = .ok (.iload 15, 2) := by decide +kernel
theorem dL_law_724 : decode cL_law 724 = .ok (.invokevirtual 221, 3) := by decide +kernel
theorem dL_law_727 : decode cL_law 727 = .ok (.ifCond .lt 45, 3) := by decide +kernel
theorem dL_law_730 : decode cL_law 730 = .ok (.aload_n 1, 1) := by decide +kernel
theorem dL_law_731 : decode cL_law 731 = .ok (.invokevirtual 212, 3) := by decide +kernel
theorem dL_law_734 : decode cL_law 734 = .ok (.iload 14, 2) := by decide +kernel
theorem dL_law_736 : decode cL_law 736 = .ok (.if_icmp .ne 36, 3) := by decide +kernel
theorem dL_law_739 : decode cL_law 739 = .ok (.aload_n 1, 1) := by decide +kernel
theorem dL_law_740 : decode cL_law 740 = .ok (.invokevirtual 215, 3) := by decide +kernel
theorem dL_law_743 : decode cL_law 743 = .ok (.iload 15, 2) := by decide +kernel
theorem dL_law_745 : decode cL_law 745 = .ok (.if_icmp .ne 27, 3) := by decide +kernel
theorem dL_law_748 : decode cL_law 748 = .ok (.aload_n 1, 1) := by decide +kernel
theorem dL_law_749 : decode cL_law 749 = .ok (.sipush 501, 3) := by decide +kernel
theorem dL_law_752 : decode cL_law 752 = .ok (.iconst 0, 1) := by decide +kernel
theorem dL_law_753 : decode cL_law 753 = .ok (.invokevirtual 221, 3) := by decide +kernel
theorem dL_law_756 : decode cL_law 756 = .ok (.bipush (-2), 2) := by decide +kernel
theorem dL_law_758 : decode cL_law 758 = .ok (.if_icmp .ne 14, 3) := by decide +kernel
theorem dL_law_761 : decode cL_law 761 = .ok (.aload_n 1, 1) := by decide +kernel
theorem dL_law_762 : decode cL_law 762 = .ok (.bipush 8, 2) := by decide +kernel
theorem dL_law_764 : decode cL_law 764 = .ok (.invokevirtual 218, 3) := by decide +kernel
theorem dL_law_767 : decode cL_law 767 = .ok (.bipush (-2), 2) := by decide +kernel
theorem dL_law_769 : decode cL_law 769 = .ok (.if_icmp .eq 5, 3) := by decide +kernel
set_option maxRecDepth 20000 in
theorem sg_H {k0 u0 a b : Nat} {h : List va_E} {w : Wd} (hd : 23 ≤ d) (o : OB G h 0 w) (C : CD G 159 w (rwB G)) (kk : ∀ h1 w1 tl ts, OB G h1 0 w1 → CD G 170 w1 (rwB G) → tl ≤ 500 → ts ≤ 255 → rwB G 0 = nI tl → rwB G 1 = nI ts → Tr l G mL_law d k0 u0 774 [(15, .int (nI ts)), (14, .int (nI tl)), (8, .int (nI (1 + dw G 21 3))), (5, .int (nI (dw G 20 (1 + dw G 1 3)))), (4, .ref a), (3, .ref b), (2, .int (nI (dw G 0 9))), (1, .ref (gz G + 0)), (0, .ref (gB G))] [] h1 Q) : Tr l G mL_law d k0 u0 609 [(8, .int (nI (1 + dw G 21 3))), (5, .int (nI (dw G 20 (1 + dw G 1 3)))), (4, .ref a), (3, .ref b), (2, .int (nI (dw G 0 9))), (1, .ref (gz G + 0)), (0, .ref (gB G))] [] h Q := by
  have n3 := dw_lt G 21 (n := 3) (by decide)
  obtain ⟨tl, -, htl, h3⟩ := hz_rgN C.1.2.2.2.2.1.1 (by decide)
  obtain ⟨ts, -, hts, h4⟩ := hz_rgN C.1.2.2.2.2.1.2.1 (by decide)
  have ha0 : rwB G 0 = nI tl := C.1.2.2.2.1.1.trans h3
  have ha1 : rwB G 1 = nI ts := C.1.2.2.2.1.2.1.trans h4
  refine am_aload_n dL_law_609 5 rfl ?_
  have q1 := om_lengthTolerance (l := l) o
  rw [show fX6_lengthTolerance w = nI tl from h3] at q1
  obtain ⟨fs, hfs⟩ := ob_cell o
  refine mm_callV (As := []) (rest := []) dL_law_610 kML_212 rfl hfs rfl rfl (Nat.le_of_ble_eq_true rfl) (d2 := 0) (by omega) (k2 := 0) (Nat.zero_le _) (u2 := 0) (Nat.zero_le _) (q1) (fun r1 h5 q3 => ?_)
  obtain ⟨rfl, e0⟩ := q3
  subst e0
  refine am_istore dL_law_613 (by decide) (lv' := [(14, .int (nI tl)), (8, .int (nI (1 + dw G 21 3))), (5, .int (nI (dw G 20 (1 + dw G 1 3)))), (4, .ref a), (3, .ref b), (2, .int (nI (dw G 0 9))), (1, .ref (gz G + 0)), (0, .ref (gB G))]) rfl ?_
  refine am_aload_n dL_law_615 6 rfl ?_
  have q1 := om_shadeTolerance (l := l) o
  rw [show fX6_shadeTolerance w = nI ts from h4] at q1
  obtain ⟨fs, hfs⟩ := ob_cell o
  refine mm_callV (As := []) (rest := []) dL_law_616 kML_215 rfl hfs rfl rfl (Nat.le_of_ble_eq_true rfl) (d2 := 0) (by omega) (k2 := 0) (Nat.zero_le _) (u2 := 0) (Nat.zero_le _) (q1) (fun r1 h6 q3 => ?_)
  obtain ⟨rfl, e0⟩ := q3
  subst e0
  refine am_istore dL_law_619 (by decide) (lv' := [(15, .int (nI ts)), (14, .int (nI tl)), (8, .int (nI (1 + dw G 21 3))), (5, .int (nI (dw G 20 (1 + dw G 1 3)))), (4, .ref a), (3, .ref b), (2, .int (nI (dw G 0 9))), (1, .ref (gz G + 0)), (0, .ref (gB G))]) rfl ?_
  obtain ⟨x, w1, e1, S, C1, -⟩ := o_lt C (by omega) (a := 1 + dw G 21 3) (by omega) (by omega) hts ha1 (K := fun t => kF (upd (upd (rwB G) 0 (nI t)) 1 (nI ts)) (dw G 0 9)) (fun t ht => kF_ok (tl_pr C.1 ht hts)) (fun t => by have := kF_7 (upd (upd (rwB G) 0 (nI t)) 1 (nI ts)) (dw G 0 9); omega)
  refine am_aload_n dL_law_621 7 rfl ?_
  refine am_iload dL_law_622 2 rfl ?_
  have hc := om_leastTolerance (l := l) o (nI (1 + dw G 21 3))
  rw [e1] at hc
  obtain ⟨fs, hfs⟩ := ob_cell o
  refine mm_callV (As := [.int (nI (1 + dw G 21 3))]) (rest := []) dL_law_624 kML_218 rfl hfs rfl rfl (Nat.le_of_ble_eq_true rfl) (d2 := 20) (by omega) (k2 := 0) (Nat.zero_le _) (u2 := 0) (Nat.zero_le _) (hc) (fun r1 h1 q3 => ?_)
  obtain ⟨rfl, o1, g1⟩ := q3
  refine am_istore dL_law_627 (by decide) (lv' := [(16, .int x), (15, .int (nI ts)), (14, .int (nI tl)), (8, .int (nI (1 + dw G 21 3))), (5, .int (nI (dw G 20 (1 + dw G 1 3)))), (4, .ref a), (3, .ref b), (2, .int (nI (dw G 0 9))), (1, .ref (gz G + 0)), (0, .ref (gB G))]) rfl ?_
  have fin : ∀ h7 w7 g, OB G h7 0 w7 → g ≤ 500 → CD G 166 w7 (upd (upd (rwB G) 0 (nI g)) 1 (nI ts)) → Tr l G mL_law d k0 u0 719 [(16, .int x), (15, .int (nI ts)), (14, .int (nI tl)), (8, .int (nI (1 + dw G 21 3))), (5, .int (nI (dw G 20 (1 + dw G 1 3)))), (4, .ref a), (3, .ref b), (2, .int (nI (dw G 0 9))), (1, .ref (gz G + 0)), (0, .ref (gB G))] [] h7 Q := by
    intro h7 w7 g o7 hg C7
    refine am_aload_n dL_law_719 8 rfl ?_
    refine am_iload dL_law_720 2 rfl ?_
    refine am_iload dL_law_722 1 rfl ?_
    obtain ⟨w8, e8, C8, -⟩ := o_sl C7 (x := tl) (y := ts) (by omega) hts
    rw [upd_4] at C8
    rw [upd_00] at e8
    have hc := om_setTolerance (l := l) o7 (nI tl) (nI ts)
    rw [e8] at hc
    obtain ⟨fs, hfs⟩ := ob_cell o7
    refine mm_callV (As := [.int (nI tl), .int (nI ts)]) (rest := []) dL_law_724 kML_221 rfl hfs rfl rfl (Nat.le_of_ble_eq_true rfl) (d2 := 6) (by omega) (k2 := 0) (Nat.zero_le _) (u2 := 0) (Nat.zero_le _) (hc) (fun r1 h8 q3 => ?_)
    obtain ⟨rfl, o8, g8⟩ := q3
    rw [upd_b ha0 ha1] at C8
    refine am_if_lt dL_law_727 (by decide : ((727 : Nat) : Int) + (45) = ((772 : Nat) : Int)) (fun zq => absurd zq (nI_pos (by omega))) (fun _ => ?_)
    refine am_aload_n dL_law_730 8 rfl ?_
    have q1 := om_lengthTolerance (l := l) o8
    rw [show fX6_lengthTolerance w8 = nI tl from C8.1.2.2.2.1.1.symm.trans ha0] at q1
    obtain ⟨fs, hfs⟩ := ob_cell o8
    refine mm_callV (As := []) (rest := []) dL_law_731 kML_212 rfl hfs rfl rfl (Nat.le_of_ble_eq_true rfl) (d2 := 0) (by omega) (k2 := 0) (Nat.zero_le _) (u2 := 0) (Nat.zero_le _) (q1) (fun r1 h9 q3 => ?_)
    obtain ⟨rfl, e0⟩ := q3
    subst e0
    refine am_iload dL_law_734 2 rfl ?_
    refine am_icmp_ne dL_law_736 (by decide : ((736 : Nat) : Int) + (36) = ((772 : Nat) : Int)) (fun zq => absurd zq (fun z => z rfl)) (fun _ => ?_)
    refine am_aload_n dL_law_739 8 rfl ?_
    have q1 := om_shadeTolerance (l := l) o8
    rw [show fX6_shadeTolerance w8 = nI ts from C8.1.2.2.2.1.2.1.symm.trans ha1] at q1
    obtain ⟨fs, hfs⟩ := ob_cell o8
    refine mm_callV (As := []) (rest := []) dL_law_740 kML_215 rfl hfs rfl rfl (Nat.le_of_ble_eq_true rfl) (d2 := 0) (by omega) (k2 := 0) (Nat.zero_le _) (u2 := 0) (Nat.zero_le _) (q1) (fun r1 h10 q3 => ?_)
    obtain ⟨rfl, e0⟩ := q3
    subst e0
    refine am_iload dL_law_743 1 rfl ?_
    refine am_icmp_ne dL_law_745 (by decide : ((745 : Nat) : Int) + (27) = ((772 : Nat) : Int)) (fun zq => absurd zq (fun z => z rfl)) (fun _ => ?_)
    refine am_aload_n dL_law_748 8 rfl ?_
    refine am_sipush (v := 501) dL_law_749 (by decide) ?_
    refine am_iconst (v := 0) dL_law_752 (by decide) ?_
    have hc := om_setTolerance (l := l) o8 501 0
    rw [sl_bad] at hc
    obtain ⟨fs, hfs⟩ := ob_cell o8
    refine mm_callV (As := [.int 501, .int 0]) (rest := []) dL_law_753 kML_221 rfl hfs rfl rfl (Nat.le_of_ble_eq_true rfl) (d2 := 6) (by omega) (k2 := 0) (Nat.zero_le _) (u2 := 0) (Nat.zero_le _) (hc) (fun r1 h11 q3 => ?_)
    obtain ⟨rfl, o11, g11⟩ := q3
    refine am_bipush (v := (-2)) dL_law_756 (by decide) ?_
    refine am_icmp_ne dL_law_758 (by decide : ((758 : Nat) : Int) + (14) = ((772 : Nat) : Int)) (fun zq => absurd zq (fun z => z rfl)) (fun _ => ?_)
    refine am_aload_n dL_law_761 8 rfl ?_
    refine am_bipush (v := 8) dL_law_762 (by decide) ?_
    have hc := om_leastTolerance (l := l) o11 8
    rw [lt_bad] at hc
    obtain ⟨fs, hfs⟩ := ob_cell o11
    refine mm_callV (As := [.int 8]) (rest := []) dL_law_764 kML_218 rfl hfs rfl rfl (Nat.le_of_ble_eq_true rfl) (d2 := 20) (by omega) (k2 := 0) (Nat.zero_le _) (u2 := 0) (Nat.zero_le _) (hc) (fun r1 h12 q3 => ?_)
    obtain ⟨rfl, o12, g12⟩ := q3
    refine am_bipush (v := (-2)) dL_law_767 (by decide) ?_
    refine am_icmp_eq dL_law_769 (by decide : ((769 : Nat) : Int) + (5) = ((774 : Nat) : Int)) (fun _ => ?_) (fun zq => absurd rfl zq)
    refine am_lv [1, 2, 3, 4, 5, 6, 7, 8, 9] rfl ?_
    exact kk _ w8 tl ts o12 (ci_up C8 (by omega)) htl hts ha0 ha1
  refine am_iload dL_law_629 0 rfl ?_
  rcases S with ⟨s1, s2⟩ | ⟨t, t1, t2, t3, t4⟩
  · subst s1
    have s2 : kF (upd (upd (rwB G) 0 (nI 500)) 1 (nI ts)) (dw G 0 9) < 1 + dw G 21 3 := s2
    refine am_if_ge dL_law_631 (by decide : ((631 : Nat) : Int) + (28) = ((659 : Nat) : Int)) (fun zq => absurd zq (by decide)) (fun _ => ?_)
    refine am_aload_n dL_law_634 8 rfl ?_
    refine am_sipush (v := 500) dL_law_635 (by decide) ?_
    refine am_iload dL_law_638 1 rfl ?_
    obtain ⟨w2, e2, C2, -⟩ := o_sl C1 (x := 500) (y := ts) (by omega) hts
    rw [ha0] at e2
    have hc := om_setTolerance (l := l) o1 (nI 500) (nI ts)
    rw [e2] at hc
    obtain ⟨fs, hfs⟩ := ob_cell o1
    refine mm_callV (As := [.int (nI 500), .int (nI ts)]) (rest := []) dL_law_640 kML_221 rfl hfs rfl rfl (Nat.le_of_ble_eq_true rfl) (d2 := 6) (by omega) (k2 := 0) (Nat.zero_le _) (u2 := 0) (Nat.zero_le _) (hc) (fun r1 h2 q3 => ?_)
    obtain ⟨rfl, o2, g2⟩ := q3
    refine am_iload dL_law_643 2 rfl ?_
    refine am_icmp_ne dL_law_645 (by decide : ((645 : Nat) : Int) + (12) = ((657 : Nat) : Int)) (fun zq => absurd zq (fun z => z rfl)) (fun _ => ?_)
    have hk3 := kF_ok C2.1
    have j3 := kF_7 (upd (upd (rwB G) 0 (nI 500)) 1 (nI ts)) (dw G 0 9)
    obtain ⟨w3, e3, -, C3, -⟩ := o_pc C2 (by omega) hk3
    refine am_aload_n dL_law_648 8 rfl ?_
    have hc := om_pairCount (l := l) o2
    rw [e3] at hc
    obtain ⟨fs, hfs⟩ := ob_cell o2
    refine mm_callV (As := []) (rest := []) dL_law_649 kML_153 rfl hfs rfl rfl (Nat.le_of_ble_eq_true rfl) (d2 := 21) (by omega) (k2 := 0) (Nat.zero_le _) (u2 := 0) (Nat.zero_le _) (hc) (fun r1 h3 q3 => ?_)
    obtain ⟨rfl, o3, g3⟩ := q3
    refine am_iload dL_law_652 3 rfl ?_
    refine am_icmp_lt dL_law_654 (by decide : ((654 : Nat) : Int) + (5) = ((659 : Nat) : Int)) (fun _ => ?_) (fun zq => absurd (nI_lt s2 (by omega)) zq)
    refine am_iload dL_law_659 0 rfl ?_
    refine am_if_lt dL_law_661 (by decide : ((661 : Nat) : Int) + (27) = ((688 : Nat) : Int)) (fun _ => ?_) (fun zq => absurd (by decide) zq)
    refine am_iload dL_law_688 0 rfl ?_
    refine am_if_le dL_law_690 (by decide : ((690 : Nat) : Int) + (29) = ((719 : Nat) : Int)) (fun _ => ?_) (fun zq => absurd (by decide) zq)
    exact fin _ w3 500 o3 (by decide) (ci_up C3 (by omega))
  · subst t2
    have t3 : 1 + dw G 21 3 ≤ kF (upd (upd (rwB G) 0 (nI t)) 1 (nI ts)) (dw G 0 9) := t3
    refine am_if_ge dL_law_631 (by decide : ((631 : Nat) : Int) + (28) = ((659 : Nat) : Int)) (fun _ => ?_) (fun zq => absurd (nI_pos' (by omega)) zq)
    refine am_iload dL_law_659 0 rfl ?_
    refine am_if_lt dL_law_661 (by decide : ((661 : Nat) : Int) + (27) = ((688 : Nat) : Int)) (fun zq => absurd zq (nI_pos (by omega))) (fun _ => ?_)
    refine am_aload_n dL_law_664 8 rfl ?_
    refine am_iload dL_law_665 0 rfl ?_
    refine am_iload dL_law_667 1 rfl ?_
    obtain ⟨w2, e2, C2, -⟩ := o_sl C1 (x := t) (y := ts) (by omega) hts
    rw [ha0] at e2
    have hc := om_setTolerance (l := l) o1 (nI t) (nI ts)
    rw [e2] at hc
    obtain ⟨fs, hfs⟩ := ob_cell o1
    refine mm_callV (As := [.int (nI t), .int (nI ts)]) (rest := []) dL_law_669 kML_221 rfl hfs rfl rfl (Nat.le_of_ble_eq_true rfl) (d2 := 6) (by omega) (k2 := 0) (Nat.zero_le _) (u2 := 0) (Nat.zero_le _) (hc) (fun r1 h2 q3 => ?_)
    obtain ⟨rfl, o2, g2⟩ := q3
    refine am_iload dL_law_672 2 rfl ?_
    refine am_icmp_ne dL_law_674 (by decide : ((674 : Nat) : Int) + (12) = ((686 : Nat) : Int)) (fun zq => absurd zq (fun z => z rfl)) (fun _ => ?_)
    have hk3 := kF_ok C2.1
    have j3 := kF_7 (upd (upd (rwB G) 0 (nI t)) 1 (nI ts)) (dw G 0 9)
    obtain ⟨w3, e3, -, C3, -⟩ := o_pc C2 (by omega) hk3
    refine am_aload_n dL_law_677 8 rfl ?_
    have hc := om_pairCount (l := l) o2
    rw [e3] at hc
    obtain ⟨fs, hfs⟩ := ob_cell o2
    refine mm_callV (As := []) (rest := []) dL_law_678 kML_153 rfl hfs rfl rfl (Nat.le_of_ble_eq_true rfl) (d2 := 21) (by omega) (k2 := 0) (Nat.zero_le _) (u2 := 0) (Nat.zero_le _) (hc) (fun r1 h3 q3 => ?_)
    obtain ⟨rfl, o3, g3⟩ := q3
    refine am_iload dL_law_681 3 rfl ?_
    refine am_icmp_ge dL_law_683 (by decide : ((683 : Nat) : Int) + (5) = ((688 : Nat) : Int)) (fun _ => ?_) (fun zq => absurd (nI_le t3 (by omega)) zq)
    refine am_iload dL_law_688 0 rfl ?_
    by_cases c0 : t = 0
    · refine am_if_le dL_law_690 (by decide : ((690 : Nat) : Int) + (29) = ((719 : Nat) : Int)) (fun _ => ?_) (fun zq => absurd (by rw [c0]; decide) zq)
      exact fin _ w3 t o3 t1 (ci_up C3 (by omega))
    · obtain ⟨v, ev⟩ : ∃ v, t = v + 1 := ⟨t - 1, by omega⟩
      have t5 : kF (upd (upd (rwB G) 0 (nI v)) 1 (nI ts)) (dw G 0 9) < 1 + dw G 21 3 := by
        rcases t4 with z | z
        · exact absurd z c0
        · rw [show t - 1 = v by omega] at z; exact z
      refine am_if_le dL_law_690 (by decide : ((690 : Nat) : Int) + (29) = ((719 : Nat) : Int)) (fun zq => absurd zq (nI_nle (by omega) (by omega))) (fun _ => ?_)
      refine am_aload_n dL_law_693 8 rfl ?_
      refine am_iload dL_law_694 0 rfl ?_
      refine am_iconst (v := 1) dL_law_696 (by decide) ?_
      refine am_isub dL_law_697 ?_
      rw [show nI t - 1 = nI v by rw [ev]; exact nI_pred v]
      refine am_iload dL_law_698 1 rfl ?_
      obtain ⟨w4, e4, C4, -⟩ := o_sl C3 (x := v) (y := ts) (by omega) hts
      rw [upd_4] at C4
      rw [upd_00] at e4
      have hc := om_setTolerance (l := l) o3 (nI v) (nI ts)
      rw [e4] at hc
      obtain ⟨fs, hfs⟩ := ob_cell o3
      refine mm_callV (As := [.int (nI v), .int (nI ts)]) (rest := []) dL_law_700 kML_221 rfl hfs rfl rfl (Nat.le_of_ble_eq_true rfl) (d2 := 6) (by omega) (k2 := 0) (Nat.zero_le _) (u2 := 0) (Nat.zero_le _) (hc) (fun r1 h4 q3 => ?_)
      obtain ⟨rfl, o4, g4⟩ := q3
      refine am_iload dL_law_703 0 rfl ?_
      refine am_icmp_ne dL_law_705 (by decide : ((705 : Nat) : Int) + (12) = ((717 : Nat) : Int)) (fun zq => absurd zq (fun z => z rfl)) (fun _ => ?_)
      have hk5 := kF_ok C4.1
      have j5 := kF_7 (upd (upd (rwB G) 0 (nI v)) 1 (nI ts)) (dw G 0 9)
      obtain ⟨w5, e5, -, C5, -⟩ := o_pc C4 (by omega) hk5
      refine am_aload_n dL_law_708 8 rfl ?_
      have hc := om_pairCount (l := l) o4
      rw [e5] at hc
      obtain ⟨fs, hfs⟩ := ob_cell o4
      refine mm_callV (As := []) (rest := []) dL_law_709 kML_153 rfl hfs rfl rfl (Nat.le_of_ble_eq_true rfl) (d2 := 21) (by omega) (k2 := 0) (Nat.zero_le _) (u2 := 0) (Nat.zero_le _) (hc) (fun r1 h5 q3 => ?_)
      obtain ⟨rfl, o5, g5⟩ := q3
      refine am_iload dL_law_712 3 rfl ?_
      refine am_icmp_lt dL_law_714 (by decide : ((714 : Nat) : Int) + (5) = ((719 : Nat) : Int)) (fun _ => ?_) (fun zq => absurd (nI_lt t5 (by omega)) zq)
      exact fin _ w5 v o5 (by omega) (ci_up C5 (by omega))
end LAW
