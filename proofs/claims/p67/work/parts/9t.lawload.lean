/-! The law's load, tried. -/
theorem st_sd {G : GM} {h h0 : List va_E} {B si lo : Nat} {w : Wd} {T : List Int32} (o : OB G h0 B w) (hl : h0.length ≤ lo) (s : SD G lo h si T) : StO G h B w (gz G + si) T := by
  obtain ⟨l1, l2, l3⟩ := ob_len o
  obtain ⟨sr, f, s1, s2, s3, s4⟩ := s
  exact Or.inr ⟨si, sr, f, rfl, s3, s4, ⟨by omega, by omega⟩, by omega, by omega⟩
theorem st_k {G : GM} {h : List va_E} {B j : Nat} {w : Wd} {q : String × Nat × String × List Int32} (hj : strTab[j]? = some q) : StO G h B w (gS G j) q.2.2.2 := Or.inl ⟨j, q, hj, rfl, rfl⟩
theorem kf_0 (f : Nat → Int32) : KF f 0 0 := fun p a b c hP => by
  have e := (kp_K hP).2
  rw [hz_W0 (S := hz_aS 0) (fun j _ => decide_eq_false (Nat.not_lt_zero j))] at e
  omega
section LLD
variable {l : Launch} {G : GM} {d m n : Nat} {h : List va_E} {Q : Option Value → List va_E → Prop} {B : Nat} {w : Wd} {T T0 : List Int32} {f : Nat → Int32} {a b c e ny ns nz np : Nat}
/-- the drawn plant's row -/
noncomputable def rwD (G : GM) : Nat → Int32 := rowP (Ps G) (1 + dw G 2 2) (1 + dw G 1 3) 2 (dw G 0 9)
def wtD (G : GM) : List Int32 := wtB (Ps G) (1 + dw G 2 2) (1 + dw G 1 3) 2 (dw G 0 9)
theorem wd_len (G : GM) : 10 ≤ (wtD G).length ∧ (wtD G).length ≤ 600 := by
  have L := wt_len (vt_ps G)
  have n2 := dw_lt G 2 (n := 2) (by decide)
  have n1 := dw_lt G 1 (n := 3) (by decide)
  have n0 := dw_lt G 0 (n := 9) (by decide)
  unfold wtD
  omega
theorem wd_ta (G : GM) : TA (wtD G) := tc_ta (wt_tc (vt_ps G))
/-- the plant is loaded, the history is as it is -/
def LD (G : GM) (n : Nat) (w : Wd) : Prop := CI n w (rwD G) (1 + dw G 2 2) (1 + dw G 1 3) 2 (dw G 0 9) ∧ w.1 0 = 0 ∧ AG (Ps G) (w.2.2.1 1) (1 + dw G 2 2) (1 + dw G 1 3) 2 (dw G 0 9) ∧ w.1 1 = 0 ∧ w.1 2 = -1
theorem ld_of (hC : CI n w f a b c e) (hF : Fg (wtD G).length (fun j => (wtD G).getD j 0) w) : ∃ w1, fX6_load w = (nI (dw G 0 9), w1) ∧ LD G n w1 ∧ w1.1 16 = w.1 16 ∧ w1.2.2.2.2.2 = w.2.2.2.2.2 := by
  have L := wd_len G
  obtain ⟨w1, e1, e2, e3, e4, e5, e6, e7, e8⟩ := o_ld hC (vt_ps G) (by show (wtD G).length ≤ 1200; omega) hF
  exact ⟨w1, e1, ⟨e2, e3, e6, e4, e5⟩, e7, e8⟩
theorem wt_wi {w1 : Wd} (t : WT w T m) (h1 : w1.1 16 = w.1 16) (h2 : w1.2.2.2.2.2 = w.2.2.2.2.2) : WT w1 T m := by
  unfold WT at t ⊢
  rw [h1, h2]
  exact t
theorem og_kx (o : OB G h B w) {h1 : List va_E} (hl : h.length ≤ h1.length) (hk : ∀ a, a < h.length → h1[a]? = h[a]?) : OG B w w h h1 := ⟨⟨hl, fun a h1 _ _ => hk a h1⟩, Or.inl rfl⟩
theorem dL_load_0 : decode cL_load 0 = .ok (.aload_n 0, 1) := by decide +kernel
theorem dL_load_1 : decode cL_load 1 = .ok (.aload_n 1, 1) := by decide +kernel
theorem dL_load_2 : decode cL_load 2 = .ok (.invokestatic 118, 3) := by decide +kernel
theorem dL_load_5 : decode cL_load 5 = .ok (.invokestatic 122, 3) := by decide +kernel
theorem dL_load_8 : decode cL_load 8 = .ok (.ifCond .eq 51, 3) := by decide +kernel
theorem dL_load_11 : decode cL_load 11 = .ok (.aload_n 0, 1) := by decide +kernel
theorem dL_load_12 : decode cL_load 12 = .ok (.invokevirtual 126, 3) := by decide +kernel
theorem dL_load_15 : decode cL_load 15 = .ok (.aload_n 1, 1) := by decide +kernel
theorem dL_load_16 : decode cL_load 16 = .ok (.invokestatic 97, 3) := by decide +kernel
theorem dL_load_19 : decode cL_load 19 = .ok (.if_icmp .ne 40, 3) := by decide +kernel
theorem dL_load_22 : decode cL_load 22 = .ok (.aload_n 0, 1) := by decide +kernel
theorem dL_load_23 : decode cL_load 23 = .ok (.invokevirtual 129, 3) := by decide +kernel
theorem dL_load_26 : decode cL_load 26 = .ok (.ifCond .ne 33, 3) := by decide +kernel
theorem dL_load_29 : decode cL_load 29 = .ok (.aload_n 0, 1) := by decide +kernel
theorem dL_load_30 : decode cL_load 30 = .ok (.invokevirtual 132, 3) := by decide +kernel
theorem dL_load_33 : decode cL_load 33 = .ok (.iconst (-1), 1) := by decide +kernel
theorem dL_load_34 : decode cL_load 34 = .ok (.if_icmp .ne 25, 3) := by decide +kernel
theorem dL_load_37 : decode cL_load 37 = .ok (.aload_n 0, 1) := by decide +kernel
theorem dL_load_38 : decode cL_load 38 = .ok (.invokevirtual 135, 3) := by decide +kernel
theorem dL_load_41 : decode cL_load 41 = .ok (.ifCond .ne 18, 3) := by decide +kernel
theorem dL_load_44 : decode cL_load 44 = .ok (.aload_n 0, 1) := by decide +kernel
theorem dL_load_45 : decode cL_load 45 = .ok (.invokevirtual 138, 3) := by decide +kernel
theorem dL_load_48 : decode cL_load 48 = .ok (.aload_n 1, 1) := by decide +kernel
theorem dL_load_49 : decode cL_load 49 = .ok (.invokestatic 97, 3) := by decide +kernel
theorem dL_load_52 : decode cL_load 52 = .ok (.if_icmp .ne 7, 3) := by decide +kernel
theorem dL_load_55 : decode cL_load 55 = .ok (.iconst 1, 1) := by decide +kernel
theorem dL_load_56 : decode cL_load 56 = .ok (.goto 4, 3) := by decide +kernel
theorem dL_load_60 : decode cL_load 60 = .ok (.ireturn, 1) := by decide +kernel
set_option maxRecDepth 20000 in
theorem ctL_load (hL : gL G ≤ 260) (ho : OB G h B w) (hC : CI n w f a b c e) (h0 : w.1 0 = nI 0) : Ct l G mL_load 10 123 233324 [.ref (gz G + B), .ref (gB G)] h (fun r h1 => r = some (.int 1) ∧ ∃ w1, OB G h1 B w1 ∧ OG B w w1 h h1 ∧ LD G n w1 ∧ w1.1 16 = w.1 16 ∧ w1.2.2.2.2.2 = w.2.2.2.2.2) := by
  show Tr l G mL_load 10 123 233324 0 [(0, .ref (gz G + B)), (1, .ref (gB G))] [] h _
  have L := wd_len G
  obtain ⟨l1, l2, l3⟩ := ob_len ho
  refine am_aload_n dL_load_0 0 rfl ?_
  refine am_aload_n dL_load_1 1 rfl ?_
  refine am_callS (As := [.ref (gB G)]) (rest := [.ref (gz G + B)]) dL_load_2 kML_118 rfl rfl (Nat.le_of_ble_eq_true rfl) (d2 := 9) (by omega) (k2 := 123) (by omega) (u2 := 233324) (by omega) (Nat.le_of_ble_eq_true rfl) (ctL_plant hL (by omega)) (fun r1 h1 q3 => ?_)
  obtain ⟨si, rfl, s1, s2, s3⟩ := q3
  rw [lpT_eq] at s1
  have o1 := ob_kp ho s2 s3
  have S1 : StO G h1 B w (gz G + si) (wtD G) := st_sd ho (Nat.le_refl _) s1
  refine am_callS (As := [.ref (gz G + B), .ref (gz G + si)]) (rest := []) dL_load_5 kML_122 rfl rfl (Nat.le_of_ble_eq_true rfl) (d2 := 5) (by omega) (k2 := 0) (Nat.zero_le _) (u2 := 0) (Nat.zero_le _) (Nat.le_of_ble_eq_true rfl) (ctL_feed o1 S1 (wd_ta G) (by omega) (by omega) ⟨h0, fun j hj => absurd hj (Nat.not_lt_zero j)⟩) (fun r1 h2 q3 => ?_)
  obtain ⟨rfl, w1, o2, g2, F2, i2⟩ := q3
  refine am_if_eq dL_load_8 (by decide : ((8 : Nat) : Int) + (51) = ((59 : Nat) : Int)) (fun zq => absurd zq (by decide)) (fun _ => ?_)
  have hC1 := ci_wi hC i2 (by omega) F2.1
  obtain ⟨w2, e1, e2, e3, e4⟩ := ld_of hC1 F2
  refine am_aload_n dL_load_11 0 rfl ?_
  have hc := om_load (l := l) o2
  rw [e1] at hc
  obtain ⟨fs, hfs⟩ := ob_cell o2
  refine mm_callV (As := []) (rest := []) dL_load_12 kML_126 rfl hfs rfl rfl (Nat.le_of_ble_eq_true rfl) (d2 := 9) (by omega) (k2 := 0) (Nat.zero_le _) (u2 := 0) (Nat.zero_le _) (hc) (fun r1 h3 q3 => ?_)
  obtain ⟨rfl, o3, g3⟩ := q3
  have P := e2.1.1
  refine am_aload_n dL_load_15 1 rfl ?_
  refine am_callS (As := [.ref (gB G)]) (rest := [.int (nI (dw G 0 9))]) dL_load_16 kML_97 rfl rfl (Nat.le_of_ble_eq_true rfl) (d2 := 1) (by omega) (k2 := 0) (Nat.zero_le _) (u2 := 0) (Nat.zero_le _) (Nat.le_of_ble_eq_true rfl) (ctL_pieces hL) (fun r1 h1 q3 => ?_)
  obtain ⟨rfl, rfl⟩ := q3
  refine am_icmp_ne dL_load_19 (by decide : ((19 : Nat) : Int) + (40) = ((59 : Nat) : Int)) (fun zq => absurd zq (fun z => z rfl)) (fun _ => ?_)
  refine am_aload_n dL_load_22 0 rfl ?_
  have q1 := om_errorCode (l := l) o3
  rw [show fX6_errorCode w2 = 0 from e2.2.2.2.1] at q1
  obtain ⟨fs, hfs⟩ := ob_cell o3
  refine mm_callV (As := []) (rest := []) dL_load_23 kML_129 rfl hfs rfl rfl (Nat.le_of_ble_eq_true rfl) (d2 := 0) (by omega) (k2 := 0) (Nat.zero_le _) (u2 := 0) (Nat.zero_le _) (q1) (fun r1 h4 q3 => ?_)
  obtain ⟨rfl, rfl⟩ := q3
  refine am_if_ne dL_load_26 (by decide : ((26 : Nat) : Int) + (33) = ((59 : Nat) : Int)) (fun zq => absurd zq (fun z => z rfl)) (fun _ => ?_)
  refine am_aload_n dL_load_29 0 rfl ?_
  have q1 := om_errorPosition (l := l) o3
  rw [show fX6_errorPosition w2 = -1 from e2.2.2.2.2] at q1
  obtain ⟨fs, hfs⟩ := ob_cell o3
  refine mm_callV (As := []) (rest := []) dL_load_30 kML_132 rfl hfs rfl rfl (Nat.le_of_ble_eq_true rfl) (d2 := 0) (by omega) (k2 := 0) (Nat.zero_le _) (u2 := 0) (Nat.zero_le _) (q1) (fun r1 h4 q3 => ?_)
  obtain ⟨rfl, rfl⟩ := q3
  refine am_iconst (v := (-1)) dL_load_33 (by decide) ?_
  refine am_icmp_ne dL_load_34 (by decide : ((34 : Nat) : Int) + (25) = ((59 : Nat) : Int)) (fun zq => absurd zq (fun z => z rfl)) (fun _ => ?_)
  refine am_aload_n dL_load_37 0 rfl ?_
  have q1 := om_days (l := l) o3
  rw [show fX6_days w2 = 0 from e2.2.2.1.2.1.2.2.2.2] at q1
  obtain ⟨fs, hfs⟩ := ob_cell o3
  refine mm_callV (As := []) (rest := []) dL_load_38 kML_135 rfl hfs rfl rfl (Nat.le_of_ble_eq_true rfl) (d2 := 0) (by omega) (k2 := 0) (Nat.zero_le _) (u2 := 0) (Nat.zero_le _) (q1) (fun r1 h4 q3 => ?_)
  obtain ⟨rfl, rfl⟩ := q3
  refine am_if_ne dL_load_41 (by decide : ((41 : Nat) : Int) + (18) = ((59 : Nat) : Int)) (fun zq => absurd zq (fun z => z rfl)) (fun _ => ?_)
  refine am_aload_n dL_load_44 0 rfl ?_
  have q1 := om_pieceCount (l := l) o3
  rw [show fX6_pieceCount w2 = nI (dw G 0 9) from P.1.2.2.2] at q1
  obtain ⟨fs, hfs⟩ := ob_cell o3
  refine mm_callV (As := []) (rest := []) dL_load_45 kML_138 rfl hfs rfl rfl (Nat.le_of_ble_eq_true rfl) (d2 := 0) (by omega) (k2 := 0) (Nat.zero_le _) (u2 := 0) (Nat.zero_le _) (q1) (fun r1 h4 q3 => ?_)
  obtain ⟨rfl, rfl⟩ := q3
  refine am_aload_n dL_load_48 1 rfl ?_
  refine am_callS (As := [.ref (gB G)]) (rest := [.int (nI (dw G 0 9))]) dL_load_49 kML_97 rfl rfl (Nat.le_of_ble_eq_true rfl) (d2 := 1) (by omega) (k2 := 0) (Nat.zero_le _) (u2 := 0) (Nat.zero_le _) (Nat.le_of_ble_eq_true rfl) (ctL_pieces hL) (fun r1 h1 q3 => ?_)
  obtain ⟨rfl, rfl⟩ := q3
  refine am_icmp_ne dL_load_52 (by decide : ((52 : Nat) : Int) + (7) = ((59 : Nat) : Int)) (fun zq => absurd zq (fun z => z rfl)) (fun _ => ?_)
  refine am_iconst (v := 1) dL_load_55 (by decide) ?_
  refine am_goto dL_load_56 (by decide : ((56 : Nat) : Int) + (4) = ((60 : Nat) : Int)) ?_
  refine am_ireturn dL_load_60 rfl rfl ⟨rfl, w2, o3, og_T (og_kx ho s2 s3) (og_T g2 g3), e2, ?_, ?_⟩
  · rw [e3]; exact i2.1 16 (by decide)
  · rw [e4, i2.2.2]
theorem ht_sk {w1 : Wd} (h : HT w f ny ns nz np) (k : hz_sk w w1) : HT w1 f ny ns nz np := by
  obtain ⟨cnt, old, a0, a1, a2, a3, a4, a6, a7⟩ := h
  exact ⟨cnt, old, a0, a1, a2, (k.1 11 (by decide) (by decide) (by decide)).trans a3, (k.1 12 (by decide) (by decide) (by decide)).trans a4, fun i hi => by rw [k.2.2.1 _ (by omega)]; exact a6 i hi, by rw [k.2.2.1 _ (by omega)]; exact a7⟩
theorem dL_tried_0 : decode cL_tried 0 = .ok (.aload_n 0, 1) := by decide +kernel
theorem dL_tried_1 : decode cL_tried 1 = .ok (.iload_n 1, 1) := by decide +kernel
theorem dL_tried_2 : decode cL_tried 2 = .ok (.invokevirtual 150, 3) := by decide +kernel
theorem dL_tried_5 : decode cL_tried 5 = .ok (.ifCond .lt 7, 3) := by decide +kernel
theorem dL_tried_8 : decode cL_tried 8 = .ok (.iconst 1, 1) := by decide +kernel
theorem dL_tried_9 : decode cL_tried 9 = .ok (.goto 4, 3) := by decide +kernel
theorem dL_tried_12 : decode cL_tried 12 = .ok (.iconst 0, 1) := by decide +kernel
theorem dL_tried_13 : decode cL_tried 13 = .ok (.istore_n 2, 1) := by decide +kernel
theorem dL_tried_14 : decode cL_tried 14 = .ok (.aload_n 0, 1) := by decide +kernel
theorem dL_tried_15 : decode cL_tried 15 = .ok (.invokevirtual 153, 3) := by decide +kernel
theorem dL_tried_18 : decode cL_tried 18 = .ok (.istore_n 3, 1) := by decide +kernel
theorem dL_tried_19 : decode cL_tried 19 = .ok (.iload_n 2, 1) := by decide +kernel
theorem dL_tried_20 : decode cL_tried 20 = .ok (.ifCond .eq 8, 3) := by decide +kernel
theorem dL_tried_23 : decode cL_tried 23 = .ok (.aload_n 0, 1) := by decide +kernel
theorem dL_tried_24 : decode cL_tried 24 = .ok (.invokevirtual 156, 3) := by decide +kernel
theorem dL_tried_27 : decode cL_tried 27 = .ok (.pop, 1) := by decide +kernel
theorem dL_tried_28 : decode cL_tried 28 = .ok (.iload_n 3, 1) := by decide +kernel
theorem dL_tried_29 : decode cL_tried 29 = .ok (.ireturn, 1) := by decide +kernel
set_option maxRecDepth 20000 in
theorem ctL_tried (ho : OB G h B w) (hC : CI n w f ny ns nz np) (hn : n ≤ 1000000) (hr : RW f np) {s K : Nat} (hs : s < ns) (hK : KF (gBx f s) np K) : Ct l G mL_tried 22 0 0 [.ref (gz G + B), .int (nI s)] h (fun r h1 => r = some (.int (nI K)) ∧ ∃ w1, OB G h1 B w1 ∧ OG B w w1 h h1 ∧ CI (n + 1) w1 f ny ns nz np) := by
  show Tr l G mL_tried 22 0 0 0 [(0, .ref (gz G + B)), (1, .int (nI s))] [] h _
  refine am_aload_n dL_tried_0 0 rfl ?_
  refine am_iload_n dL_tried_1 1 rfl ?_
  by_cases c0 : np = 0
  · have eb := o_b0 hC hs c0
    have hc := om_boardAll (l := l) ho (nI s)
    rw [eb] at hc
    obtain ⟨fs, hfs⟩ := ob_cell ho
    refine mm_callV (As := [.int (nI s)]) (rest := []) dL_tried_2 kML_150 rfl hfs rfl rfl (Nat.le_of_ble_eq_true rfl) (d2 := 6) (by omega) (k2 := 0) (Nat.zero_le _) (u2 := 0) (Nat.zero_le _) (hc) (fun r1 h1 q3 => ?_)
    obtain ⟨rfl, o1, g1⟩ := q3
    refine am_if_lt dL_tried_5 (by decide : ((5 : Nat) : Int) + (7) = ((12 : Nat) : Int)) (fun _ => ?_) (fun zq => absurd (show (-1 : Int32) < 0 by decide) zq)
    refine am_iconst (v := 0) dL_tried_12 (by decide) ?_
    refine am_istore_n dL_tried_13 (by decide) (lv' := [(2, .int 0), (0, .ref (gz G + B)), (1, .int (nI s))]) rfl ?_
    refine am_aload_n dL_tried_14 1 rfl ?_
    have eK : K = 0 := by rw [c0] at hK hC; exact kf_u (b_pr hC.1 hs) hK (kf_0 _)
    have hK2 : KF f np K := by rw [eK, c0]; exact kf_0 f
    obtain ⟨w2, x1, x2, x3, -⟩ := o_pc hC hn hK2
    have hc := om_pairCount (l := l) o1
    rw [x1] at hc
    obtain ⟨fs, hfs⟩ := ob_cell o1
    refine mm_callV (As := []) (rest := []) dL_tried_15 kML_153 rfl hfs rfl rfl (Nat.le_of_ble_eq_true rfl) (d2 := 21) (by omega) (k2 := 0) (Nat.zero_le _) (u2 := 0) (Nat.zero_le _) (hc) (fun r1 h2 q3 => ?_)
    obtain ⟨rfl, o2, g2⟩ := q3
    refine am_istore_n dL_tried_18 (by decide) (lv' := [(3, .int (nI K)), (2, .int 0), (0, .ref (gz G + B)), (1, .int (nI s))]) rfl ?_
    refine am_iload_n dL_tried_19 1 rfl ?_
    refine am_if_eq dL_tried_20 (by decide : ((20 : Nat) : Int) + (8) = ((28 : Nat) : Int)) (fun _ => ?_) (fun zq => absurd rfl zq)
    refine am_iload_n dL_tried_28 0 rfl ?_
    exact am_ireturn dL_tried_29 rfl rfl ⟨rfl, w2, o2, og_T g1 g2, x3⟩
  · obtain ⟨j, w1, eb, j1, C1, H1, -⟩ := o_ba hC hs hr (by omega)
    have hc := om_boardAll (l := l) ho (nI s)
    rw [eb] at hc
    obtain ⟨fs, hfs⟩ := ob_cell ho
    refine mm_callV (As := [.int (nI s)]) (rest := []) dL_tried_2 kML_150 rfl hfs rfl rfl (Nat.le_of_ble_eq_true rfl) (d2 := 6) (by omega) (k2 := 0) (Nat.zero_le _) (u2 := 0) (Nat.zero_le _) (hc) (fun r1 h1 q3 => ?_)
    obtain ⟨rfl, o1, g1⟩ := q3
    refine am_if_lt dL_tried_5 (by decide : ((5 : Nat) : Int) + (7) = ((12 : Nat) : Int)) (fun zq => absurd zq (nI_pos (by omega))) (fun _ => ?_)
    refine am_iconst (v := 1) dL_tried_8 (by decide) ?_
    refine am_goto dL_tried_9 (by decide : ((9 : Nat) : Int) + (4) = ((13 : Nat) : Int)) ?_
    refine am_istore_n dL_tried_13 (by decide) (lv' := [(2, .int 1), (0, .ref (gz G + B)), (1, .int (nI s))]) rfl ?_
    refine am_aload_n dL_tried_14 1 rfl ?_
    obtain ⟨w2, x1, x2, x3, x4, -⟩ := o_pc C1 hn hK
    have hc := om_pairCount (l := l) o1
    rw [x1] at hc
    obtain ⟨fs, hfs⟩ := ob_cell o1
    refine mm_callV (As := []) (rest := []) dL_tried_15 kML_153 rfl hfs rfl rfl (Nat.le_of_ble_eq_true rfl) (d2 := 21) (by omega) (k2 := 0) (Nat.zero_le _) (u2 := 0) (Nat.zero_le _) (hc) (fun r1 h2 q3 => ?_)
    obtain ⟨rfl, o2, g2⟩ := q3
    refine am_istore_n dL_tried_18 (by decide) (lv' := [(3, .int (nI K)), (2, .int 1), (0, .ref (gz G + B)), (1, .int (nI s))]) rfl ?_
    refine am_iload_n dL_tried_19 1 rfl ?_
    refine am_if_eq dL_tried_20 (by decide : ((20 : Nat) : Int) + (8) = ((28 : Nat) : Int)) (fun zq => absurd zq (by decide)) (fun _ => ?_)
    refine am_aload_n dL_tried_23 2 rfl ?_
    obtain ⟨i, w3, y1, y2, y3, -⟩ := o_un x3 (ht_sk H1 x4)
    have hc := om_undo (l := l) o2
    rw [y1] at hc
    obtain ⟨fs, hfs⟩ := ob_cell o2
    refine mm_callV (As := []) (rest := []) dL_tried_24 kML_156 rfl hfs rfl rfl (Nat.le_of_ble_eq_true rfl) (d2 := 5) (by omega) (k2 := 0) (Nat.zero_le _) (u2 := 0) (Nat.zero_le _) (hc) (fun r1 h3 q3 => ?_)
    obtain ⟨rfl, o3, g3⟩ := q3
    refine am_pop dL_tried_27 rfl ?_
    refine am_iload_n dL_tried_28 0 rfl ?_
    exact am_ireturn dL_tried_29 rfl rfl ⟨rfl, w3, o3, og_T g1 (og_T g2 g3), y3⟩
end LLD
