/-! The law: other tolerances. -/
theorem it_bad (w : Wd) : fX6_ifTolerance w (-1) 0 = (-2, w) := if_pos (show fX6_areTolerances (-1) 0 = 0 by decide)
section LAW
variable {l : Launch} {G : GM} {d : Nat} {Q : Option Value → List va_E → Prop}
theorem dL_law_774 : decode cL_law 774 = .ok (.aload_n 0, 1) := by decide +kernel
theorem dL_law_775 : decode cL_law 775 = .ok (.bipush 25, 2) := by decide +kernel
theorem dL_law_777 : decode cL_law 777 = .ok (.sipush 501, 3) := by decide +kernel
theorem dL_law_780 : decode cL_law 780 = .ok (.invokestatic 34, 3) := by decide +kernel
theorem dL_law_783 : decode cL_law 783 = .ok (.istore 17, 2) := by decide +kernel
theorem dL_law_785 : decode cL_law 785 = .ok (.aload_n 0, 1) := by decide +kernel
theorem dL_law_786 : decode cL_law 786 = .ok (.bipush 26, 2) := by decide +kernel
theorem dL_law_788 : decode cL_law 788 = .ok (.sipush 256, 3) := by decide +kernel
theorem dL_law_791 : decode cL_law 791 = .ok (.invokestatic 34, 3) := by decide +kernel
theorem dL_law_794 : decode cL_law 794 = .ok (.istore 18, 2) := by decide +kernel
theorem dL_law_796 : decode cL_law 796 = .ok (.aload_n 1, 1) := by decide +kernel
theorem dL_law_797 : decode cL_law 797 = .ok (.iload 17, 2) := by decide +kernel
theorem dL_law_799 : decode cL_law 799 = .ok (.iload 18, 2) := by decide +kernel
theorem dL_law_801 : decode cL_law 801 = .ok (.invokevirtual 224, 3) := by decide +kernel
theorem dL_law_804 : decode cL_law 804 = .ok (.istore 19, 2) := by decide +kernel
theorem dL_law_806 : decode cL_law 806 = .ok (.aload_n 1, 1) := by decide +kernel
theorem dL_law_807 : decode cL_law 807 = .ok (.iload 17, 2) := by decide +kernel
theorem dL_law_809 : decode cL_law 809 = .ok (.iload 18, 2) := by decide +kernel
theorem dL_law_811 : decode cL_law 811 = .ok (.invokevirtual 221, 3) := by decide +kernel
theorem dL_law_814 : decode cL_law 814 = .ok (.iload 14, 2) := by decide +kernel
theorem dL_law_816 : decode cL_law 816 = .ok (.if_icmp .ne 36, 3) := by decide +kernel
theorem dL_law_819 : decode cL_law 819 = .ok (.aload_n 1, 1) := by decide +kernel
theorem dL_law_820 : decode cL_law 820 = .ok (.invokevirtual 153, 3) := by decide +kernel
theorem dL_law_823 : decode cL_law 823 = .ok (.iload 19, 2) := by decide +kernel
theorem dL_law_825 : decode cL_law 825 = .ok (.if_icmp .ne 27, 3) := by decide +kernel
theorem dL_law_828 : decode cL_law 828 = .ok (.aload_n 1, 1) := by decide +kernel
theorem dL_law_829 : decode cL_law 829 = .ok (.iload 14, 2) := by decide +kernel
theorem dL_law_831 : decode cL_law 831 = .ok (.iload 15, 2) := by decide +kernel
theorem dL_law_833 : decode cL_law 833 = .ok (.invokevirtual 221, 3) := by decide +kernel
theorem dL_law_836 : decode cL_law 836 = .ok (.iload 17, 2) := by decide +kernel
theorem dL_law_838 : decode cL_law 838 = .ok (.if_icmp .ne 14, 3) := by decide +kernel
theorem dL_law_841 : decode cL_law 841 = .ok (.aload_n 1, 1) := by decide +kernel
theorem dL_law_842 : decode cL_law 842 = .ok (.iconst (-1), 1) := by decide +kernel
theorem dL_law_843 : decode cL_law 843 = .ok (.iconst 0, 1) := by decide +kernel
theorem dL_law_844 : decode cL_law 844 = .ok (.invokevirtual 224, 3) := by decide +kernel
theorem dL_law_847 : decode cL_law 847 = .ok (.bipush (-2), 2) := by decide +kernel
theorem dL_law_849 : decode cL_law 849 = .ok (.if_icmp .eq 5, 3) := by decide +kernel
set_option maxRecDepth 20000 in
theorem sg_I (hL : gL G ≤ 260) {k0 u0 a b tl ts : Nat} {h : List va_E} {w : Wd} (hd : 23 ≤ d) (o : OB G h 0 w) (C : CD G 170 w (rwB G)) (htl : tl ≤ 500) (hts : ts ≤ 255) (ha0 : rwB G 0 = nI tl) (ha1 : rwB G 1 = nI ts) (kk : ∀ h1 w1, OB G h1 0 w1 → CD G 175 w1 (rwB G) → Tr l G mL_law d k0 u0 854 [(4, .ref a), (3, .ref b), (2, .int (nI (dw G 0 9))), (1, .ref (gz G + 0)), (0, .ref (gB G))] [] h1 Q) : Tr l G mL_law d k0 u0 774 [(15, .int (nI ts)), (14, .int (nI tl)), (8, .int (nI (1 + dw G 21 3))), (5, .int (nI (dw G 20 (1 + dw G 1 3)))), (4, .ref a), (3, .ref b), (2, .int (nI (dw G 0 9))), (1, .ref (gz G + 0)), (0, .ref (gB G))] [] h Q := by
  have nW := dw_lt G 25 (n := 501) (by decide)
  have nH := dw_lt G 26 (n := 256) (by decide)
  refine am_aload_n dL_law_774 8 rfl ?_
  refine am_bipush (v := 25) dL_law_775 (by decide) ?_
  refine am_sipush (v := 501) dL_law_777 (by decide) ?_
  refine am_callS (As := [.ref (gB G), .int (nI 25), .int (nI 501)]) (rest := []) dL_law_780 kML_34 rfl rfl (Nat.le_of_ble_eq_true rfl) (d2 := 0) (by omega) (k2 := 0) (Nat.zero_le _) (u2 := 0) (Nat.zero_le _) (Nat.le_of_ble_eq_true rfl) (ctL_draw (k := 25) (n := 501) hL (by omega) (by decide) (by decide)) (fun r1 h1 q3 => ?_)
  obtain ⟨rfl, rfl⟩ := q3
  refine am_istore dL_law_783 (by decide) (lv' := [(17, .int (nI (dw G 25 501))), (15, .int (nI ts)), (14, .int (nI tl)), (8, .int (nI (1 + dw G 21 3))), (5, .int (nI (dw G 20 (1 + dw G 1 3)))), (4, .ref a), (3, .ref b), (2, .int (nI (dw G 0 9))), (1, .ref (gz G + 0)), (0, .ref (gB G))]) rfl ?_
  refine am_aload_n dL_law_785 9 rfl ?_
  refine am_bipush (v := 26) dL_law_786 (by decide) ?_
  refine am_sipush (v := 256) dL_law_788 (by decide) ?_
  refine am_callS (As := [.ref (gB G), .int (nI 26), .int (nI 256)]) (rest := []) dL_law_791 kML_34 rfl rfl (Nat.le_of_ble_eq_true rfl) (d2 := 0) (by omega) (k2 := 0) (Nat.zero_le _) (u2 := 0) (Nat.zero_le _) (Nat.le_of_ble_eq_true rfl) (ctL_draw (k := 26) (n := 256) hL (by omega) (by decide) (by decide)) (fun r1 h1 q3 => ?_)
  obtain ⟨rfl, rfl⟩ := q3
  refine am_istore dL_law_794 (by decide) (lv' := [(18, .int (nI (dw G 26 256))), (17, .int (nI (dw G 25 501))), (15, .int (nI ts)), (14, .int (nI tl)), (8, .int (nI (1 + dw G 21 3))), (5, .int (nI (dw G 20 (1 + dw G 1 3)))), (4, .ref a), (3, .ref b), (2, .int (nI (dw G 0 9))), (1, .ref (gz G + 0)), (0, .ref (gB G))]) rfl ?_
  have hW : (dw G 25 501) ≤ 500 := by omega
  have hH : (dw G 26 256) ≤ 255 := by omega
  have hk := kF_ok (tl_pr C.1 hW hH)
  obtain ⟨w1, e1, -, C1, -⟩ := o_it C (by omega) hW hH hk
  refine am_aload_n dL_law_796 9 rfl ?_
  refine am_iload dL_law_797 1 rfl ?_
  refine am_iload dL_law_799 0 rfl ?_
  have hc := om_ifTolerance (l := l) o (nI (dw G 25 501)) (nI (dw G 26 256))
  rw [e1] at hc
  obtain ⟨fs, hfs⟩ := ob_cell o
  refine mm_callV (As := [.int (nI (dw G 25 501)), .int (nI (dw G 26 256))]) (rest := []) dL_law_801 kML_224 rfl hfs rfl rfl (Nat.le_of_ble_eq_true rfl) (d2 := 20) (by omega) (k2 := 0) (Nat.zero_le _) (u2 := 0) (Nat.zero_le _) (hc) (fun r1 h1 q3 => ?_)
  obtain ⟨rfl, o1, g1⟩ := q3
  refine am_istore dL_law_804 (by decide) (lv' := [(19, .int (nI (kF (upd (upd (rwB G) 0 (nI (dw G 25 501))) 1 (nI (dw G 26 256))) (dw G 0 9)))), (18, .int (nI (dw G 26 256))), (17, .int (nI (dw G 25 501))), (15, .int (nI ts)), (14, .int (nI tl)), (8, .int (nI (1 + dw G 21 3))), (5, .int (nI (dw G 20 (1 + dw G 1 3)))), (4, .ref a), (3, .ref b), (2, .int (nI (dw G 0 9))), (1, .ref (gz G + 0)), (0, .ref (gB G))]) rfl ?_
  obtain ⟨w2, e2, C2, -⟩ := o_sl C1 hW hH
  rw [ha0] at e2
  refine am_aload_n dL_law_806 10 rfl ?_
  refine am_iload dL_law_807 2 rfl ?_
  refine am_iload dL_law_809 1 rfl ?_
  have hc := om_setTolerance (l := l) o1 (nI (dw G 25 501)) (nI (dw G 26 256))
  rw [e2] at hc
  obtain ⟨fs, hfs⟩ := ob_cell o1
  refine mm_callV (As := [.int (nI (dw G 25 501)), .int (nI (dw G 26 256))]) (rest := []) dL_law_811 kML_221 rfl hfs rfl rfl (Nat.le_of_ble_eq_true rfl) (d2 := 6) (by omega) (k2 := 0) (Nat.zero_le _) (u2 := 0) (Nat.zero_le _) (hc) (fun r1 h2 q3 => ?_)
  obtain ⟨rfl, o2, g2⟩ := q3
  refine am_iload dL_law_814 4 rfl ?_
  refine am_icmp_ne dL_law_816 (by decide : ((816 : Nat) : Int) + (36) = ((852 : Nat) : Int)) (fun zq => absurd zq (fun z => z rfl)) (fun _ => ?_)
  obtain ⟨w3, e3, -, C3, -⟩ := o_pc C2 (by omega) hk
  refine am_aload_n dL_law_819 10 rfl ?_
  have hc := om_pairCount (l := l) o2
  rw [e3] at hc
  obtain ⟨fs, hfs⟩ := ob_cell o2
  refine mm_callV (As := []) (rest := []) dL_law_820 kML_153 rfl hfs rfl rfl (Nat.le_of_ble_eq_true rfl) (d2 := 21) (by omega) (k2 := 0) (Nat.zero_le _) (u2 := 0) (Nat.zero_le _) (hc) (fun r1 h3 q3 => ?_)
  obtain ⟨rfl, o3, g3⟩ := q3
  refine am_iload dL_law_823 0 rfl ?_
  refine am_icmp_ne dL_law_825 (by decide : ((825 : Nat) : Int) + (27) = ((852 : Nat) : Int)) (fun zq => absurd zq (fun z => z rfl)) (fun _ => ?_)
  obtain ⟨w4, e4, C4, -⟩ := o_sl C3 htl hts
  rw [upd_4, upd_b ha0 ha1] at C4
  rw [upd_00] at e4
  refine am_aload_n dL_law_828 10 rfl ?_
  refine am_iload dL_law_829 4 rfl ?_
  refine am_iload dL_law_831 3 rfl ?_
  have hc := om_setTolerance (l := l) o3 (nI tl) (nI ts)
  rw [e4] at hc
  obtain ⟨fs, hfs⟩ := ob_cell o3
  refine mm_callV (As := [.int (nI tl), .int (nI ts)]) (rest := []) dL_law_833 kML_221 rfl hfs rfl rfl (Nat.le_of_ble_eq_true rfl) (d2 := 6) (by omega) (k2 := 0) (Nat.zero_le _) (u2 := 0) (Nat.zero_le _) (hc) (fun r1 h4 q3 => ?_)
  obtain ⟨rfl, o4, g4⟩ := q3
  refine am_iload dL_law_836 2 rfl ?_
  refine am_icmp_ne dL_law_838 (by decide : ((838 : Nat) : Int) + (14) = ((852 : Nat) : Int)) (fun zq => absurd zq (fun z => z rfl)) (fun _ => ?_)
  refine am_aload_n dL_law_841 10 rfl ?_
  refine am_iconst (v := (-1)) dL_law_842 (by decide) ?_
  refine am_iconst (v := 0) dL_law_843 (by decide) ?_
  have hc := om_ifTolerance (l := l) o4 (-1) 0
  rw [it_bad] at hc
  obtain ⟨fs, hfs⟩ := ob_cell o4
  refine mm_callV (As := [.int (-1), .int 0]) (rest := []) dL_law_844 kML_224 rfl hfs rfl rfl (Nat.le_of_ble_eq_true rfl) (d2 := 20) (by omega) (k2 := 0) (Nat.zero_le _) (u2 := 0) (Nat.zero_le _) (hc) (fun r1 h5 q3 => ?_)
  obtain ⟨rfl, o5, g5⟩ := q3
  refine am_bipush (v := (-2)) dL_law_847 (by decide) ?_
  refine am_icmp_eq dL_law_849 (by decide : ((849 : Nat) : Int) + (5) = ((854 : Nat) : Int)) (fun _ => ?_) (fun zq => absurd rfl zq)
  refine am_lv [7, 8, 9, 10, 11] rfl ?_
  exact kk _ w4 o5 (ci_up C4 (by omega))
end LAW
