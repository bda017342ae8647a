/-! The law: what was written loads as the same plant. -/
theorem ld_tF {G : GM} {n : Nat} {w w1 : Wd} (h : LD G n w) (k : hz_tF w w1) : LD G n w1 := by
  obtain ⟨a, b, c, e, f⟩ := h
  have q := k.1
  exact ⟨ci_tF a k, (q 0 (by decide) (by decide)).trans b, by rw [k.2.2.1]; exact c, (q 1 (by decide) (by decide)).trans e, (q 2 (by decide) (by decide)).trans f⟩
theorem st_lo {G : GM} {h h0 : List va_E} {lo si B : Nat} {w : Wd} {T : List Int32} (s : SD G lo h0 si T) (hB : h0.length ≤ B) (hk : ∀ a, a < h0.length → h[a]? = h0[a]?) : StO G h B w (gz G + si) T := by
  obtain ⟨sr, f, s1, s2, ⟨d1, d2, d3, d4⟩, s4⟩ := s
  have l1 := (List.getElem?_eq_some_iff.mp d1).1
  have l2 := (List.getElem?_eq_some_iff.mp d2).1
  exact Or.inr ⟨si, sr, f, rfl, ⟨(hk _ l1).trans d1, (hk _ l2).trans d2, d3, d4⟩, s4, ⟨by omega, by omega⟩, by omega, by omega⟩
theorem wt_m {G : GM} {h : List va_E} {B m : Nat} {w : Wd} {T : List Int32} (o : OB G h B w) (t : WT w T m) : 16 ≤ m ∧ m ≤ 4096 := by
  have e := t.2.1
  have a := o.2.2.2.1.2.2
  omega
section LAW
variable {l : Launch} {G : GM} {d : Nat} {Q : Option Value → List va_E → Prop}
theorem dL_law_30 : decode cL_law 30 = .ok (.aload_n 0, 1) := by decide +kernel
theorem dL_law_31 : decode cL_law 31 = .ok (.invokestatic 97, 3) := by decide +kernel
theorem dL_law_34 : decode cL_law 34 = .ok (.istore_n 2, 1) := by decide +kernel
theorem dL_law_35 : decode cL_law 35 = .ok (.aload_n 1, 1) := by decide +kernel
theorem dL_law_36 : decode cL_law 36 = .ok (.invokestatic 160, 3) := by decide +kernel
theorem dL_law_39 : decode cL_law 39 = .ok (.astore_n 3, 1) := by decide +kernel
theorem dL_law_40 : decode cL_law 40 = .ok (.new 25, 3) := by decide +kernel
theorem dL_law_43 : decode cL_law 43 = .ok (.dup, 1) := by decide +kernel
theorem dL_law_44 : decode cL_law 44 = .ok (.invokespecial 159, 3) := by decide +kernel
theorem dL_law_47 : decode cL_law 47 = .ok (.astore 4, 2) := by decide +kernel
theorem dL_law_49 : decode cL_law 49 = .ok (.aload_n 3, 1) := by decide +kernel
theorem dL_law_50 : decode cL_law 50 = .ok (.aload_n 0, 1) := by decide +kernel
theorem dL_law_51 : decode cL_law 51 = .ok (.invokestatic 118, 3) := by decide +kernel
theorem dL_law_54 : decode cL_law 54 = .ok (.invokevirtual 166, 3) := by decide +kernel
theorem dL_law_57 : decode cL_law 57 = .ok (.ifCond .eq 54, 3) := by decide +kernel
theorem dL_law_60 : decode cL_law 60 = .ok (.aload_n 1, 1) := by decide +kernel
theorem dL_law_61 : decode cL_law 61 = .ok (.aload_n 3, 1) := by decide +kernel
theorem dL_law_62 : decode cL_law 62 = .ok (.invokevirtual 8, 3) := by decide +kernel
theorem dL_law_65 : decode cL_law 65 = .ok (.invokevirtual 147, 3) := by decide +kernel
theorem dL_law_68 : decode cL_law 68 = .ok (.iconst (-1), 1) := by decide +kernel
theorem dL_law_69 : decode cL_law 69 = .ok (.if_icmp .ne 42, 3) := by decide +kernel
theorem dL_law_72 : decode cL_law 72 = .ok (.aload_n 1, 1) := by decide +kernel
theorem dL_law_73 : decode cL_law 73 = .ok (.iconst (-1), 1) := by decide +kernel
theorem dL_law_74 : decode cL_law 74 = .ok (.invokevirtual 147, 3) := by decide +kernel
theorem dL_law_77 : decode cL_law 77 = .ok (.iconst (-1), 1) := by decide +kernel
theorem dL_law_78 : decode cL_law 78 = .ok (.if_icmp .ne 33, 3) := by decide +kernel
theorem dL_law_81 : decode cL_law 81 = .ok (.aload 4, 2) := by decide +kernel
theorem dL_law_83 : decode cL_law 83 = .ok (.aload_n 3, 1) := by decide +kernel
theorem dL_law_84 : decode cL_law 84 = .ok (.invokestatic 122, 3) := by decide +kernel
theorem dL_law_87 : decode cL_law 87 = .ok (.ifCond .eq 24, 3) := by decide +kernel
theorem dL_law_90 : decode cL_law 90 = .ok (.aload 4, 2) := by decide +kernel
theorem dL_law_92 : decode cL_law 92 = .ok (.invokevirtual 126, 3) := by decide +kernel
theorem dL_law_95 : decode cL_law 95 = .ok (.iload_n 2, 1) := by decide +kernel
theorem dL_law_96 : decode cL_law 96 = .ok (.if_icmp .ne 15, 3) := by decide +kernel
theorem dL_law_99 : decode cL_law 99 = .ok (.aload 4, 2) := by decide +kernel
theorem dL_law_101 : decode cL_law 101 = .ok (.invokestatic 160, 3) := by decide +kernel
theorem dL_law_104 : decode cL_law 104 = .ok (.aload_n 3, 1) := by decide +kernel
theorem dL_law_105 : decode cL_law 105 = .ok (.invokevirtual 166, 3) := by decide +kernel
theorem dL_law_108 : decode cL_law 108 = .ok (.ifCond .ne 5, 3) := by decide +kernel
set_option maxRecDepth 20000 in
theorem sg_B (hL : gL G ≤ 260) {k0 u0 m : Nat} {h : List va_E} {w : Wd} {T : List Int32} (hd : 23 ≤ d) (o : OB G h 0 w) (D : LD G 0 w) (t : WT w T m) (kk : ∀ h1 w1 a b, OB G h1 0 w1 → LD G 0 w1 → Tr l G mL_law d k0 u0 113 [(4, .ref a), (3, .ref b), (2, .int (nI (dw G 0 9))), (1, .ref (gz G + 0)), (0, .ref (gB G))] [] h1 Q) : Tr l G mL_law d (k0 + 1900) (u0 + 2700000) 30 [(1, .ref (gz G + 0)), (0, .ref (gB G))] [] h Q := by
  have L := wd_len G
  have cm := wt_m o t
  have cb := c_max (X := (wtD G).length) (n := m) (by omega) cm.1 cm.2
  refine am_aload_n dL_law_30 1 rfl ?_
  refine am_callS (As := [.ref (gB G)]) (rest := []) dL_law_31 kML_97 rfl rfl (Nat.le_of_ble_eq_true rfl) (d2 := 1) (by omega) (k2 := 0) (Nat.zero_le _) (u2 := 0) (Nat.zero_le _) (Nat.le_of_ble_eq_true rfl) (ctL_pieces hL) (fun r1 h1 q3 => ?_)
  obtain ⟨rfl, rfl⟩ := q3
  refine am_istore_n dL_law_34 (by decide) (lv' := [(2, .int (nI (dw G 0 9))), (1, .ref (gz G + 0)), (0, .ref (gB G))]) rfl ?_
  refine am_aload_n dL_law_35 1 rfl ?_
  refine am_callS (As := [.ref (gz G + 0)]) (rest := []) dL_law_36 kML_160 rfl rfl (Nat.le_of_ble_eq_true rfl) (d2 := 10) (by omega) (k2 := (cK (wtD G).length m + (2 + 1 * (wtD G).length + 2))) (by omega) (u2 := (cU (wtD G).length m + (20 + 2000 * (wtD G).length + (4 + (wtD G).length)))) (by omega) (Nat.le_of_ble_eq_true rfl) (ctL_written o t (vt_ps G) D.2.2.1 (wd_ta G) (by show (wtD G).length ≤ 990; omega)) (fun r1 h0 q3 => ?_)
  obtain ⟨si, w2, rfl, o2, -, f2, t2, s2, n2⟩ := q3
  have s2 : SD G _ h0 si (wtD G) := s2
  have D2 := ld_tF D f2
  obtain ⟨l1, l2, l3⟩ := ob_len o2
  refine am_room (k1 := k0 + 1180) (u1 := u0 + 1480000) ?_ (by omega) (by omega)
  refine am_astore_n dL_law_39 (by decide) (lv' := [(3, .ref (gz G + si)), (2, .int (nI (dw G 0 9))), (1, .ref (gz G + 0)), (0, .ref (gB G))]) rfl ?_
  obtain ⟨B1, hB1⟩ : ∃ B1, h0.length = B1 := ⟨_, rfl⟩
  refine am_newL (n := B1) hB1 (k1 := k0 + 1179) (u1 := u0 + 1479991) dL_law_40 kNL_25 (by omega) (by omega) ?_
  have x1 : (h0 ++ [(.inr (7, [.null, .int 0, .null, .null, .null, .null, .null, .null, .null]) : va_E)])[B1]? = some (.inr (7, [.null, .int 0, .null, .null, .null, .null, .null, .null, .null])) := hs_newc hB1
  have x2 : (h0 ++ [(.inr (7, [.null, .int 0, .null, .null, .null, .null, .null, .null, .null]) : va_E)]).length = B1 + 1 := by rw [List.length_append, hB1]; rfl
  refine am_dup dL_law_43 rfl ?_
  refine mm_callI (As := []) (rest := [.ref (gz G + B1)]) dL_law_44 kML_159 rfl rfl (Nat.le_of_ble_eq_true rfl) (d2 := 4) (by omega) (k2 := 220) (by omega) (u2 := 11749) (by omega) (om_init (B := B1) x2 x1) (fun r1 h1 q3 => ?_)
  obtain ⟨rfl, n1, kp1, p1⟩ := q3
  have k1 : ∀ a, a < h0.length → h1[a]? = h0[a]? := fun a ha => by rw [kp1 a (by omega), List.getElem?_append_left ha]
  refine am_astore dL_law_47 (by decide) (lv' := [(4, .ref (gz G + B1)), (3, .ref (gz G + si)), (2, .int (nI (dw G 0 9))), (1, .ref (gz G + 0)), (0, .ref (gB G))]) rfl ?_
  refine am_aload_n dL_law_49 1 rfl ?_
  refine am_aload_n dL_law_50 4 rfl ?_
  refine am_callS (As := [.ref (gB G)]) (rest := [.ref (gz G + si)]) dL_law_51 kML_118 rfl rfl (Nat.le_of_ble_eq_true rfl) (d2 := 9) (by omega) (k2 := 123) (by omega) (u2 := 233324) (by omega) (Nat.le_of_ble_eq_true rfl) (ctL_plant hL (by omega)) (fun r1 h3 q3 => ?_)
  obtain ⟨sj, rfl, s3, n3, kp3⟩ := q3
  rw [lpT_eq] at s3
  have k3 : ∀ a, a < h0.length → h3[a]? = h0[a]? := fun a ha => by rw [kp3 a (by omega), k1 a ha]
  have p3 := ob_kp p1 n3 kp3
  have o3 := ob_kp o2 (by omega) k3
  have s2c := sd_fr s2 (fun a _ ha => k3 a ha)
  obtain ⟨fs, hfs⟩ := sd_at s2c
  refine am_callV (As := [.ref (gz G + sj)]) (rest := []) dL_law_54 kML_166 rfl hfs rfl rfl (Nat.le_of_ble_eq_true rfl) (d2 := 1) (by omega) (k2 := 0) (Nat.zero_le _) (u2 := 0) (Nat.zero_le _) (Nat.le_of_ble_eq_true rfl) (sd_eqD s2c s3) (fun r1 h4 q3 => ?_)
  obtain ⟨rfl, e0⟩ := q3
  subst e0
  refine am_if_eq dL_law_57 (by decide : ((57 : Nat) : Int) + (54) = ((111 : Nat) : Int)) (fun zq => absurd zq (by decide)) (fun _ => ?_)
  refine am_aload_n dL_law_60 3 rfl ?_
  refine am_aload_n dL_law_61 1 rfl ?_
  have S3 : StO G h4 B1 wz0 (gz G + si) (wtD G) := st_lo s2 (by omega) k3
  refine am_sl (rest := [.ref (gz G + 0)]) dL_law_62 kML_8 S3 (Nat.le_of_ble_eq_true rfl) (by omega) ?_
  obtain ⟨fs, hfs⟩ := ob_cell o3
  refine mm_callV (As := [.int (nI (wtD G).length)]) (rest := []) dL_law_65 kML_147 rfl hfs rfl rfl (Nat.le_of_ble_eq_true rfl) (d2 := 4) (by omega) (k2 := 0) (Nat.zero_le _) (u2 := 0) (Nat.zero_le _) (om_o2 o3 t2 (nI_pos (by omega)) (fun z => absurd z (nI_nlt (Nat.le_refl _) (by omega)))) (fun r1 h5 q3 => ?_)
  obtain ⟨rfl, e0⟩ := q3
  subst e0
  refine am_iconst (v := (-1)) dL_law_68 (by decide) ?_
  refine am_icmp_ne dL_law_69 (by decide : ((69 : Nat) : Int) + (42) = ((111 : Nat) : Int)) (fun zq => absurd zq (fun z => z rfl)) (fun _ => ?_)
  refine am_aload_n dL_law_72 3 rfl ?_
  refine am_iconst (v := (-1)) dL_law_73 (by decide) ?_
  obtain ⟨fs, hfs⟩ := ob_cell o3
  refine mm_callV (As := [.int (-1)]) (rest := []) dL_law_74 kML_147 rfl hfs rfl rfl (Nat.le_of_ble_eq_true rfl) (d2 := 4) (by omega) (k2 := 0) (Nat.zero_le _) (u2 := 0) (Nat.zero_le _) (om_o1 o3 t2 (by decide)) (fun r1 h6 q3 => ?_)
  obtain ⟨rfl, e0⟩ := q3
  subst e0
  refine am_iconst (v := (-1)) dL_law_77 (by decide) ?_
  refine am_icmp_ne dL_law_78 (by decide : ((78 : Nat) : Int) + (33) = ((111 : Nat) : Int)) (fun zq => absurd zq (fun z => z rfl)) (fun _ => ?_)
  refine am_aload dL_law_81 0 rfl ?_
  refine am_aload_n dL_law_83 1 rfl ?_
  refine am_callS (As := [.ref (gz G + B1), .ref (gz G + si)]) (rest := []) dL_law_84 kML_122 rfl rfl (Nat.le_of_ble_eq_true rfl) (d2 := 5) (by omega) (k2 := 0) (Nat.zero_le _) (u2 := 0) (Nat.zero_le _) (Nat.le_of_ble_eq_true rfl) (ctL_feed p3 S3 (wd_ta G) (by omega) (by omega) (fg_0 _)) (fun r1 h7 q3 => ?_)
  obtain ⟨rfl, w7, p7, g7, F7, i7⟩ := q3
  refine am_if_eq dL_law_87 (by decide : ((87 : Nat) : Int) + (24) = ((111 : Nat) : Int)) (fun zq => absurd zq (by decide)) (fun _ => ?_)
  obtain ⟨w8, e1, e2, e3, e4⟩ := ld_of (ci_wi ci_0 i7 (by omega) F7.1) F7
  refine am_aload dL_law_90 0 rfl ?_
  have hc := om_load (l := l) p7
  rw [e1] at hc
  obtain ⟨fs, hfs⟩ := ob_cell p7
  refine mm_callV (As := []) (rest := []) dL_law_92 kML_126 rfl hfs rfl rfl (Nat.le_of_ble_eq_true rfl) (d2 := 9) (by omega) (k2 := 0) (Nat.zero_le _) (u2 := 0) (Nat.zero_le _) (hc) (fun r1 h8 q3 => ?_)
  obtain ⟨rfl, p8, g8⟩ := q3
  refine am_iload_n dL_law_95 2 rfl ?_
  refine am_icmp_ne dL_law_96 (by decide : ((96 : Nat) : Int) + (15) = ((111 : Nat) : Int)) (fun zq => absurd zq (fun z => z rfl)) (fun _ => ?_)
  have t8 : WT w8 [] 16 := wt_wi wt_0 (e3.trans (i7.1 16 (by decide))) (e4.trans (by rw [i7.2.2]))
  have G8 := og_T g7 g8
  have k8 : ∀ a, a < h0.length → h8[a]? = h0[a]? := fun a ha => by rw [G8.1.2 a (by omega) (Or.inl (by omega)) (by omega), k3 a ha]
  have cc := c_max (X := (wtD G).length) (n := 16) (by omega) (by decide) (by decide)
  refine am_aload dL_law_99 0 rfl ?_
  refine am_callS (As := [.ref (gz G + B1)]) (rest := []) dL_law_101 kML_160 rfl rfl (Nat.le_of_ble_eq_true rfl) (d2 := 10) (by omega) (k2 := (cK (wtD G).length 16 + (2 + 1 * (wtD G).length + 2))) (by omega) (u2 := (cU (wtD G).length 16 + (20 + 2000 * (wtD G).length + (4 + (wtD G).length)))) (by omega) (Nat.le_of_ble_eq_true rfl) (ctL_written p8 t8 (vt_ps G) e2.2.2.1 (wd_ta G) (by show (wtD G).length ≤ 990; omega)) (fun r1 h9 q3 => ?_)
  obtain ⟨sk, w9, rfl, p9, g9, -, -, s9, n9⟩ := q3
  have s9 : SD G h8.length h9 sk (wtD G) := s9
  have l8 := G8.1.1
  have k9 : ∀ a, a < h0.length → h9[a]? = h0[a]? := fun a ha => by rw [g9.1.2 a (by omega) (Or.inl (by omega)) (by have := (ob_len p8).2.1; omega), k8 a ha]
  have s2d := sd_fr s2 (fun a _ ha => k9 a ha)
  obtain ⟨fs, hfs⟩ := sd_at s9
  refine am_aload_n dL_law_104 1 rfl ?_
  refine am_callV (As := [.ref (gz G + si)]) (rest := []) dL_law_105 kML_166 rfl hfs rfl rfl (Nat.le_of_ble_eq_true rfl) (d2 := 1) (by omega) (k2 := 0) (Nat.zero_le _) (u2 := 0) (Nat.zero_le _) (Nat.le_of_ble_eq_true rfl) (sd_eqD s9 s2d) (fun r1 h10 q3 => ?_)
  obtain ⟨rfl, e0⟩ := q3
  subst e0
  refine am_if_ne dL_law_108 (by decide : ((108 : Nat) : Int) + (5) = ((113 : Nat) : Int)) (fun _ => ?_) (fun zq => absurd zq (by decide))
  exact am_room (kk _ w2 _ _ (ob_kp o2 (by omega) k9) D2) (by omega) (by omega)
end LAW
