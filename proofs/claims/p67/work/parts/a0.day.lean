/-! The law: the best day. -/
theorem it_ex {p : Pl} {f : Nat → Int32} {ny ns nz np : Nat} (hP : hz_PR p f ny ns nz np) : ∀ d, ∃ q, hz_PR q (itD f d) ny ns nz np
  | 0 => ⟨p, hP⟩
  | d + 1 => by
    obtain ⟨q, h⟩ := it_ex hP d
    exact ⟨_, d_pr h⟩
theorem it_kf {p : Pl} {f : Nat → Int32} {ny ns nz np : Nat} (hP : hz_PR p f ny ns nz np) (d : Nat) : KF (itD f d) np (kF (itD f d) np) := by
  obtain ⟨q, h⟩ := it_ex hP d
  exact kF_ok h
theorem id_61 (w : Wd) : fX6_ifDays w 61 = (-2, w) := if_pos (show fX6_isBetween 61 0 60 = 0 by decide)
theorem bd_m1 (w : Wd) : fX6_bestDay w (-1) = (-2, w) := if_pos (show fX6_isBetween (-1) 0 60 = 0 by decide)
/-- pairs behind t days -/
noncomputable def kD (G : GM) (t : Nat) : Nat := kF (itD (rwB G) t) (dw G 0 9)
section LAW
variable {l : Launch} {G : GM} {d : Nat} {Q : Option Value → List va_E → Prop}
theorem dL_law_449 : decode cL_law 449 = .ok (.aload_n 0, 1) := by decide +kernel
theorem dL_law_450 : decode cL_law 450 = .ok (.bipush 23, 2) := by decide +kernel
theorem dL_law_452 : decode cL_law 452 = .ok (.bipush 6, 2) := by decide +kernel
theorem dL_law_454 : decode cL_law 454 = .ok (.invokestatic 34, 3) := by decide +kernel
theorem dL_law_457 : decode cL_law 457 = .ok (.istore 10, 2) := by decide +kernel
theorem dL_law_459 : decode cL_law 459 = .ok (.aload_n 1, 1) := by decide +kernel
theorem dL_law_460 : decode cL_law 460 = .ok (.iload 10, 2) := by decide +kernel
theorem dL_law_462 : decode cL_law 462 = .ok (.invokevirtual 203, 3) := by decide +kernel
theorem dL_law_465 : decode cL_law 465 = .ok (.istore 11, 2) := by decide +kernel
theorem dL_law_467 : decode cL_law 467 = .ok (.aload_n 1, 1) := by decide +kernel
theorem dL_law_468 : decode cL_law 468 = .ok (.iload 11, 2) := by decide +kernel
theorem dL_law_470 : decode cL_law 470 = .ok (.invokevirtual 206, 3) := by decide +kernel
theorem dL_law_473 : decode cL_law 473 = .ok (.istore 12, 2) := by decide +kernel
theorem dL_law_475 : decode cL_law 475 = .ok (.iload 11, 2) := by decide +kernel
theorem dL_law_477 : decode cL_law 477 = .ok (.ifCond .lt 31, 3) := by decide +kernel
theorem dL_law_480 : decode cL_law 480 = .ok (.iload 11, 2) := by decide +kernel
theorem dL_law_482 : decode cL_law 482 = .ok (.iload 10, 2) := by decide +kernel
theorem dL_law_484 : decode cL_law 484 = .ok (.if_icmp .gt 24, 3) := by decide +kernel
theorem dL_law_487 : decode cL_law 487 = .ok (.aload_n 1, 1) := by decide +kernel
theorem dL_law_488 : decode cL_law 488 = .ok (.bipush 61, 2) := by decide +kernel
theorem dL_law_490 : decode cL_law 490 = .ok (.invokevirtual 206, 3) := by decide +kernel
theorem dL_law_493 : decode cL_law 493 = .ok (.bipush (-2), 2) := by decide +kernel
theorem dL_law_495 : decode cL_law 495 = .ok (.if_icmp .ne 13, 3) := by decide +kernel
theorem dL_law_498 : decode cL_law 498 = .ok (.aload_n 1, 1) := by decide +kernel
theorem dL_law_499 : decode cL_law 499 = .ok (.iconst (-1), 1) := by decide +kernel
theorem dL_law_500 : decode cL_law 500 = .ok (.invokevirtual 203, 3) := by decide +kernel
theorem dL_law_503 : decode cL_law 503 = .ok (.bipush (-2), 2) := by decide +kernel
theorem dL_law_505 : decode cL_law 505 = .ok (.if_icmp .eq 5, 3) := by decide +kernel
set_option maxRecDepth 20000 in
theorem sg_F (hL : gL G ≤ 260) {k0 u0 a b : Nat} {h : List va_E} {w : Wd} (hd : 23 ≤ d) (o : OB G h 0 w) (C : CD G 150 w (rwB G)) (kk : ∀ h1 w1 bd, OB G h1 0 w1 → CD G 152 w1 (rwB G) → am (kD G) (dw G 23 6 + 1) bd → Tr l G mL_law d k0 u0 510 [(12, .int (nI (kD G bd))), (11, .int (nI bd)), (10, .int (nI (dw G 23 6))), (8, .int (nI (1 + dw G 21 3))), (5, .int (nI (dw G 20 (1 + dw G 1 3)))), (4, .ref a), (3, .ref b), (2, .int (nI (dw G 0 9))), (1, .ref (gz G + 0)), (0, .ref (gB G))] [] h1 Q) : Tr l G mL_law d k0 u0 449 [(8, .int (nI (1 + dw G 21 3))), (5, .int (nI (dw G 20 (1 + dw G 1 3)))), (4, .ref a), (3, .ref b), (2, .int (nI (dw G 0 9))), (1, .ref (gz G + 0)), (0, .ref (gB G))] [] h Q := by
  have n6 := dw_lt G 23 (n := 6) (by decide)
  refine am_aload_n dL_law_449 6 rfl ?_
  refine am_bipush (v := 23) dL_law_450 (by decide) ?_
  refine am_bipush (v := 6) dL_law_452 (by decide) ?_
  refine am_callS (As := [.ref (gB G), .int (nI 23), .int (nI 6)]) (rest := []) dL_law_454 kML_34 rfl rfl (Nat.le_of_ble_eq_true rfl) (d2 := 0) (by omega) (k2 := 0) (Nat.zero_le _) (u2 := 0) (Nat.zero_le _) (Nat.le_of_ble_eq_true rfl) (ctL_draw (k := 23) (n := 6) hL (by omega) (by decide) (by decide)) (fun r1 h1 q3 => ?_)
  obtain ⟨rfl, rfl⟩ := q3
  refine am_istore dL_law_457 (by decide) (lv' := [(10, .int (nI (dw G 23 6))), (8, .int (nI (1 + dw G 21 3))), (5, .int (nI (dw G 20 (1 + dw G 1 3)))), (4, .ref a), (3, .ref b), (2, .int (nI (dw G 0 9))), (1, .ref (gz G + 0)), (0, .ref (gB G))]) rfl ?_
  obtain ⟨bd, w1, e1, A, C1, -⟩ := o_bd C (by omega) (D := dw G 23 6) (by omega) (K := kD G) (fun t _ => it_kf C.1 t) (fun s => by have := kF_7 (itD (rwB G) s) (dw G 0 9); unfold kD; omega)
  have A1 := A.1
  refine am_aload_n dL_law_459 6 rfl ?_
  refine am_iload dL_law_460 0 rfl ?_
  have hc := om_bestDay (l := l) o (nI (dw G 23 6))
  rw [e1] at hc
  obtain ⟨fs, hfs⟩ := ob_cell o
  refine mm_callV (As := [.int (nI (dw G 23 6))]) (rest := []) dL_law_462 kML_203 rfl hfs rfl rfl (Nat.le_of_ble_eq_true rfl) (d2 := 19) (by omega) (k2 := 0) (Nat.zero_le _) (u2 := 0) (Nat.zero_le _) (hc) (fun r1 h1 q3 => ?_)
  obtain ⟨rfl, o1, g1⟩ := q3
  refine am_istore dL_law_465 (by decide) (lv' := [(11, .int (nI bd)), (10, .int (nI (dw G 23 6))), (8, .int (nI (1 + dw G 21 3))), (5, .int (nI (dw G 20 (1 + dw G 1 3)))), (4, .ref a), (3, .ref b), (2, .int (nI (dw G 0 9))), (1, .ref (gz G + 0)), (0, .ref (gB G))]) rfl ?_
  obtain ⟨w2, e2, -, C2, -⟩ := o_id C1 (by omega) (D := bd) (by omega) (K := kD G bd) (it_kf C.1 bd)
  refine am_aload_n dL_law_467 7 rfl ?_
  refine am_iload dL_law_468 0 rfl ?_
  have hc := om_ifDays (l := l) o1 (nI bd)
  rw [e2] at hc
  obtain ⟨fs, hfs⟩ := ob_cell o1
  refine mm_callV (As := [.int (nI bd)]) (rest := []) dL_law_470 kML_206 rfl hfs rfl rfl (Nat.le_of_ble_eq_true rfl) (d2 := 19) (by omega) (k2 := 0) (Nat.zero_le _) (u2 := 0) (Nat.zero_le _) (hc) (fun r1 h2 q3 => ?_)
  obtain ⟨rfl, o2, g2⟩ := q3
  refine am_istore dL_law_473 (by decide) (lv' := [(12, .int (nI (kD G bd))), (11, .int (nI bd)), (10, .int (nI (dw G 23 6))), (8, .int (nI (1 + dw G 21 3))), (5, .int (nI (dw G 20 (1 + dw G 1 3)))), (4, .ref a), (3, .ref b), (2, .int (nI (dw G 0 9))), (1, .ref (gz G + 0)), (0, .ref (gB G))]) rfl ?_
  refine am_iload dL_law_475 1 rfl ?_
  refine am_if_lt dL_law_477 (by decide : ((477 : Nat) : Int) + (31) = ((508 : Nat) : Int)) (fun zq => absurd zq (nI_pos (by omega))) (fun _ => ?_)
  refine am_iload dL_law_480 1 rfl ?_
  refine am_iload dL_law_482 2 rfl ?_
  refine am_icmp_gt dL_law_484 (by decide : ((484 : Nat) : Int) + (24) = ((508 : Nat) : Int)) (fun zq => absurd zq (nI_nlt (by omega) (by omega))) (fun _ => ?_)
  refine am_aload_n dL_law_487 8 rfl ?_
  refine am_bipush (v := 61) dL_law_488 (by decide) ?_
  have hc := om_ifDays (l := l) o2 61
  rw [id_61] at hc
  obtain ⟨fs, hfs⟩ := ob_cell o2
  refine mm_callV (As := [.int 61]) (rest := []) dL_law_490 kML_206 rfl hfs rfl rfl (Nat.le_of_ble_eq_true rfl) (d2 := 19) (by omega) (k2 := 0) (Nat.zero_le _) (u2 := 0) (Nat.zero_le _) (hc) (fun r1 h3 q3 => ?_)
  obtain ⟨rfl, o3, g3⟩ := q3
  refine am_bipush (v := (-2)) dL_law_493 (by decide) ?_
  refine am_icmp_ne dL_law_495 (by decide : ((495 : Nat) : Int) + (13) = ((508 : Nat) : Int)) (fun zq => absurd zq (fun z => z rfl)) (fun _ => ?_)
  refine am_aload_n dL_law_498 8 rfl ?_
  refine am_iconst (v := (-1)) dL_law_499 (by decide) ?_
  have hc := om_bestDay (l := l) o3 (-1)
  rw [bd_m1] at hc
  obtain ⟨fs, hfs⟩ := ob_cell o3
  refine mm_callV (As := [.int (-1)]) (rest := []) dL_law_500 kML_203 rfl hfs rfl rfl (Nat.le_of_ble_eq_true rfl) (d2 := 19) (by omega) (k2 := 0) (Nat.zero_le _) (u2 := 0) (Nat.zero_le _) (hc) (fun r1 h4 q3 => ?_)
  obtain ⟨rfl, o4, g4⟩ := q3
  refine am_bipush (v := (-2)) dL_law_503 (by decide) ?_
  refine am_icmp_eq dL_law_505 (by decide : ((505 : Nat) : Int) + (5) = ((510 : Nat) : Int)) (fun _ => ?_) (fun zq => absurd rfl zq)
  exact kk _ w2 bd o4 (ci_up C2 (by omega)) A
end LAW
