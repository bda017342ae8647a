/-! The law's loop, and the law. -/
set_option maxRecDepth 20000 in
theorem lw_sw {l : Launch} {G : GM} {n k u : Nat} {h : List va_E} {Q : Option Value → List va_E → Prop} (H : HZ G h n) (hn : n ≤ 511) (hi : 6 * n + 6 ≤ gL G) (hL : gL G ≤ 3072) (hk : 112 ≤ k) (hu : 8004 ≤ u) (kk : ∀ h1, HZ G h1 (n + 1) → Tr l G mL 22 (k - 112) (u - 8004) 1676 (lwV G n) [] h1 Q) (c : Nat) (hc : c < 64) : Tr l G mL 22 k u (lwT c) (lwV G n) [] h Q := by
  match c, hc with
  | 0, _ => rw [show lwT 0 = 304 by decide]; exact lw_c0 H hn hi hL hk hu kk
  | 1, _ => rw [show lwT 1 = 367 by decide]; exact lw_c1 H hn hi hL hk hu kk
  | 2, _ => rw [show lwT 2 = 390 by decide]; exact lw_c2 H hn hi hL hk hu kk
  | 3, _ => rw [show lwT 3 = 403 by decide]; exact lw_c3 H hn hi hL hk hu kk
  | 4, _ => rw [show lwT 4 = 416 by decide]; exact lw_c4 H hn hi hL hk hu kk
  | 5, _ => rw [show lwT 5 = 429 by decide]; exact lw_c5 H hn hi hL hk hu kk
  | 6, _ => rw [show lwT 6 = 442 by decide]; exact lw_c6 H hn hi hL hk hu kk
  | 7, _ => rw [show lwT 7 = 455 by decide]; exact lw_c7 H hn hi hL hk hu kk
  | 8, _ => rw [show lwT 8 = 468 by decide]; exact lw_c8 H hn hi hL hk hu kk
  | 9, _ => rw [show lwT 9 = 481 by decide]; exact lw_c9 H hn hi hL hk hu kk
  | 10, _ => rw [show lwT 10 = 494 by decide]; exact lw_c10 H hn hi hL hk hu kk
  | 11, _ => rw [show lwT 11 = 507 by decide]; exact lw_c11 H hn hi hL hk hu kk
  | 12, _ => rw [show lwT 12 = 520 by decide]; exact lw_c12 H hn hi hL hk hu kk
  | 13, _ => rw [show lwT 13 = 533 by decide]; exact lw_c13 H hn hi hL hk hu kk
  | 14, _ => rw [show lwT 14 = 546 by decide]; exact lw_c14 H hn hi hL hk hu kk
  | 15, _ => rw [show lwT 15 = 569 by decide]; exact lw_c15 H hn hi hL hk hu kk
  | 16, _ => rw [show lwT 16 = 592 by decide]; exact lw_c16 H hn hi hL hk hu kk
  | 17, _ => rw [show lwT 17 = 615 by decide]; exact lw_c17 H hn hi hL hk hu kk
  | 18, _ => rw [show lwT 18 = 638 by decide]; exact lw_c18 H hn hi hL hk hu kk
  | 19, _ => rw [show lwT 19 = 661 by decide]; exact lw_c19 H hn hi hL hk hu kk
  | 20, _ => rw [show lwT 20 = 684 by decide]; exact lw_c20 H hn hi hL hk hu kk
  | 21, _ => rw [show lwT 21 = 707 by decide]; exact lw_c21 H hn hi hL hk hu kk
  | 22, _ => rw [show lwT 22 = 730 by decide]; exact lw_c22 H hn hi hL hk hu kk
  | 23, _ => rw [show lwT 23 = 753 by decide]; exact lw_c23 H hn hi hL hk hu kk
  | 24, _ => rw [show lwT 24 = 776 by decide]; exact lw_c24 H hn hi hL hk hu kk
  | 25, _ => rw [show lwT 25 = 809 by decide]; exact lw_c25 H hn hi hL hk hu kk
  | 26, _ => rw [show lwT 26 = 832 by decide]; exact lw_c26 H hn hi hL hk hu kk
  | 27, _ => rw [show lwT 27 = 855 by decide]; exact lw_c27 H hn hi hL hk hu kk
  | 28, _ => rw [show lwT 28 = 878 by decide]; exact lw_c28 H hn hi hL hk hu kk
  | 29, _ => rw [show lwT 29 = 891 by decide]; exact lw_c29 H hn hi hL hk hu kk
  | 30, _ => rw [show lwT 30 = 924 by decide]; exact lw_c30 H hn hi hL hk hu kk
  | 31, _ => rw [show lwT 31 = 947 by decide]; exact lw_c31 H hn hi hL hk hu kk
  | 32, _ => rw [show lwT 32 = 960 by decide]; exact lw_c32 H hn hi hL hk hu kk
  | 33, _ => rw [show lwT 33 = 993 by decide]; exact lw_c33 H hn hi hL hk hu kk
  | 34, _ => rw [show lwT 34 = 1026 by decide]; exact lw_c34 H hn hi hL hk hu kk
  | 35, _ => rw [show lwT 35 = 1049 by decide]; exact lw_c35 H hn hi hL hk hu kk
  | 36, _ => rw [show lwT 36 = 1082 by decide]; exact lw_c36 H hn hi hL hk hu kk
  | 37, _ => rw [show lwT 37 = 1115 by decide]; exact lw_c37 H hn hi hL hk hu kk
  | 38, _ => rw [show lwT 38 = 1138 by decide]; exact lw_c38 H hn hi hL hk hu kk
  | 39, _ => rw [show lwT 39 = 1161 by decide]; exact lw_c39 H hn hi hL hk hu kk
  | 40, _ => rw [show lwT 40 = 1174 by decide]; exact lw_c40 H hn hi hL hk hu kk
  | 41, _ => rw [show lwT 41 = 1187 by decide]; exact lw_c41 H hn hi hL hk hu kk
  | 42, _ => rw [show lwT 42 = 1210 by decide]; exact lw_c42 H hn hi hL hk hu kk
  | 43, _ => rw [show lwT 43 = 1233 by decide]; exact lw_c43 H hn hi hL hk hu kk
  | 44, _ => rw [show lwT 44 = 1256 by decide]; exact lw_c44 H hn hi hL hk hu kk
  | 45, _ => rw [show lwT 45 = 1269 by decide]; exact lw_c45 H hn hi hL hk hu kk
  | 46, _ => rw [show lwT 46 = 1282 by decide]; exact lw_c46 H hn hi hL hk hu kk
  | 47, _ => rw [show lwT 47 = 1305 by decide]; exact lw_c47 H hn hi hL hk hu kk
  | 48, _ => rw [show lwT 48 = 1318 by decide]; exact lw_c48 H hn hi hL hk hu kk
  | 49, _ => rw [show lwT 49 = 1331 by decide]; exact lw_c49 H hn hi hL hk hu kk
  | 50, _ => rw [show lwT 50 = 1354 by decide]; exact lw_c50 H hn hi hL hk hu kk
  | 51, _ => rw [show lwT 51 = 1377 by decide]; exact lw_c51 H hn hi hL hk hu kk
  | 52, _ => rw [show lwT 52 = 1400 by decide]; exact lw_c52 H hn hi hL hk hu kk
  | 53, _ => rw [show lwT 53 = 1413 by decide]; exact lw_c53 H hn hi hL hk hu kk
  | 54, _ => rw [show lwT 54 = 1446 by decide]; exact lw_c54 H hn hi hL hk hu kk
  | 55, _ => rw [show lwT 55 = 1469 by decide]; exact lw_c55 H hn hi hL hk hu kk
  | 56, _ => rw [show lwT 56 = 1492 by decide]; exact lw_c56 H hn hi hL hk hu kk
  | 57, _ => rw [show lwT 57 = 1505 by decide]; exact lw_c57 H hn hi hL hk hu kk
  | 58, _ => rw [show lwT 58 = 1518 by decide]; exact lw_c58 H hn hi hL hk hu kk
  | 59, _ => rw [show lwT 59 = 1541 by decide]; exact lw_c59 H hn hi hL hk hu kk
  | 60, _ => rw [show lwT 60 = 1574 by decide]; exact lw_c60 H hn hi hL hk hu kk
  | 61, _ => rw [show lwT 61 = 1587 by decide]; exact lw_c61 H hn hi hL hk hu kk
  | 62, _ => rw [show lwT 62 = 1610 by decide]; exact lw_c62 H hn hi hL hk hu kk
  | 63, _ => rw [show lwT 63 = 1643 by decide]; exact lw_c63 H hn hi hL hk hu kk
  | c + 64, hc => omega
theorem lw_lt {n L : Nat} (hL : L ≤ 3072) (hn : n ≤ 1000) (c : ¬ nI L - 6 < nI (6 * n)) : 6 * n + 6 ≤ L := by
  have e1 : (nI L).toInt = L := nI_toInt (by omega)
  have e2 : (nI (6 * n)).toInt = (6 * n : Nat) := nI_toInt (by omega)
  have e6 : (6 : Int32).toInt = 6 := rfl
  rw [hz_lt, hz_sub (by rw [e1, e6]; omega) (by rw [e1, e6]; omega), e1, e2, e6] at c
  omega
theorem lw_loop {l : Launch} {G : GM} (hL : gL G ≤ 3072) : ∀ (r n : Nat) (h : List va_E), n + r = 512 → HZ G h n → Tr l G mL 22 (112 * r) (8004 * r) 18 (lwV G n) [] h (fun v _ => v = some (.int 1)) := by
  intro r
  induction r with
  | zero =>
    intro n h hn H
    refine am_iload_n dL_18 0 rfl ?_
    refine am_aload_n dL_19 3 rfl ?_
    refine am_slen dL_20 ?_
    refine am_bipush (v := 6) dL_21 (by decide) ?_
    refine am_isub dL_23 ?_
    refine am_icmp_gt dL_24 (by decide : ((24 : Nat) : Int) + 1658 = ((1682 : Nat) : Int)) (fun _ => ?_) (fun c => ?_)
    · refine am_iconst (v := 1) dL_1682 (by decide) ?_
      exact am_ireturn dL_1683 rfl rfl rfl
    · have := lw_lt hL (by omega) c
      omega
  | succ r ih =>
    intro n h hn H
    refine am_iload_n dL_18 0 rfl ?_
    refine am_aload_n dL_19 3 rfl ?_
    refine am_slen dL_20 ?_
    refine am_bipush (v := 6) dL_21 (by decide) ?_
    refine am_isub dL_23 ?_
    refine am_icmp_gt dL_24 (by decide : ((24 : Nat) : Int) + 1658 = ((1682 : Nat) : Int)) (fun _ => ?_) (fun c => ?_)
    · refine am_iconst (v := 1) dL_1682 (by decide) ?_
      exact am_ireturn dL_1683 rfl rfl rfl
    · have hi := lw_lt hL (by omega) c
      refine am_aload_n dL_27 3 rfl ?_
      refine am_iload_n dL_28 0 rfl ?_
      refine am_sld dL_29 (vp_in_nI (by omega) (by omega)) ?_
      refine am_bipush (v := 63) dL_30 (by decide) ?_
      refine am_iand dL_32 ?_
      obtain ⟨q, hq, e⟩ := lw_63 (gX G (nI (6 * n)).toNatClampNeg)
      rw [e]
      have ei : (nI q).toInt = q := nI_toInt (by omega)
      refine am_tsw (tgt := lwT q) dL_33 (by rw [ei]; omega) (by rw [ei]; omega) (by rw [ei, show ((q : Int) - 0).toNat = q by omega]; exact lw_off q hq) (by omega) ?_
      refine lw_sw H (by omega) hi hL (by omega) (by omega) (fun h1 H1 => ?_) q hq
      refine am_iinc (v := nI (6 * (n + 1))) dL_1676 0 rfl (by show nI (6 * n) + nI 6 = _; rw [nI_add, show 6 * n + 6 = 6 * (n + 1) by omega]) (by decide) (lv' := lwV G (n + 1)) rfl ?_
      refine am_goto dL_1679 (by decide : ((1679 : Nat) : Int) + (-1661) = ((18 : Nat) : Int)) ?_
      exact tr_wk (by omega) (by omega) (ih (n + 1) h1 (by omega) H1)
set_option maxHeartbeats 1000000 in
theorem lw_tr {l : Launch} {G : GM} (hL : gL G ≤ 3072) : Tr l G mL 22 600000 7302250 0 [(0, .ref (gB G))] [] [] (fun v _ => v = some (.int 1)) := by
  refine am_newL (n := 0) rfl (k1 := 599999) (u1 := 7302241) dL_0 kNL_7 (by omega) (by omega) ?_
  refine am_dup dL_3 rfl ?_
  refine am_callI (As := []) (rest := [.ref (gz G + 0)]) dL_4 kML_9 rfl rfl (Nat.le_of_ble_eq_true rfl) (d2 := 4) (by decide) (k2 := 220) (by omega) (u2 := 11749) (by omega) (Nat.le_of_ble_eq_true rfl) (ctX6_init rfl rfl) (fun v h1 q => ?_)
  obtain ⟨rfl, hl1, -, c0, c1, c2, c3, c4, p5, p21, p37, c53, c54, p55, p71, p87, p103, p119, p135, p151, p167, p183, p199, c215, c216, c217, c218, c219, c220⟩ := q
  refine am_astore_n dL_7 (by decide) (lv' := [(1, .ref (gz G + 0)), (0, .ref (gB G))]) rfl ?_
  refine am_newL (n := 221) hl1 (k1 := 599778) (u1 := 7290469) dL_8 kNL_10 (by omega) (by omega) ?_
  refine am_dup dL_11 rfl ?_
  refine am_callI (As := []) (rest := [.ref (gz G + 221)]) dL_12 kML_12 rfl rfl (Nat.le_of_ble_eq_true rfl) (d2 := 1) (by decide) (k2 := 9) (by omega) (u2 := 21510) (by omega) (Nat.le_of_ble_eq_true rfl) (ctX7_init (ln_push hl1 rfl) (hs_newc hl1)) (fun v h3 q => ?_)
  obtain ⟨rfl, m, hm, hq, hP⟩ := q
  have H := hz_0 rfl hl1 c0 c1 c2 c3 c4 p5 p21 p37 c53 c54 p55 p71 p87 p103 p119 p135 p151 p167 p183 p199 c215 c216 c217 c218 c219 c220 hm hq hP
  refine am_astore_n dL_15 (by decide) (lv' := [(2, .ref (gz G + 221)), (1, .ref (gz G + 0)), (0, .ref (gB G))]) rfl ?_
  refine am_iconst (v := 0) dL_16 (by decide) ?_
  refine am_istore_n dL_17 (by decide) (lv' := lwV G 0) rfl ?_
  exact tr_wk (by omega) (by omega) (lw_loop hL 512 0 h3 (by decide) H)
