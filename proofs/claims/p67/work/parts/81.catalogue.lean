/-! The class writes names and the catalogue. -/
def tS11 : List Int32 := [116, 111, 108, 101, 114, 97, 110, 99, 101]
theorem tS11_len : tS11.length = 9 := rfl
def tS12 : List Int32 := [115, 116, 101, 97, 109]
theorem tS12_len : tS12.length = 5 := rfl
def tS13 : List Int32 := [98, 111, 120]
theorem tS13_len : tS13.length = 3 := rfl
def tS14 : List Int32 := [121, 97, 114, 110]
theorem tS14_len : tS14.length = 4 := rfl
def tS15 : List Int32 := [115, 104, 97, 112, 101]
theorem tS15_len : tS15.length = 5 := rfl
def tS16 : List Int32 := [115, 105, 122, 101]
theorem tS16_len : tS16.length = 4 := rfl
def tS17 : List Int32 := [112, 105, 101, 99, 101]
theorem tS17_len : tS17.length = 5 := rfl
def tS18 : List Int32 := [112, 108, 97, 105, 110]
theorem tS18_len : tS18.length = 5 := rfl
def tS19 : List Int32 := [114, 105, 98, 98, 101, 100]
theorem tS19_len : tS19.length = 6 := rfl
def tS20 : List Int32 := [108, 97, 99, 101]
theorem tS20_len : tS20.length = 4 := rfl
theorem sb_and31 (y : Int32) : ∃ b, b < 32 ∧ y &&& 31 = nI b := by
  refine ⟨y.toBitVec.toNat % 32, Nat.mod_lt _ (by decide), ?_⟩
  apply Int32.toBitVec_inj.1
  show y.toBitVec &&& 31#32 = BitVec.ofNat 32 (y.toBitVec.toNat % 32)
  apply BitVec.eq_of_toNat_eq
  rw [BitVec.toNat_and, show (31#32).toNat = 2 ^ 5 - 1 from rfl, Nat.and_two_pow_sub_one_eq_mod, BitVec.toNat_ofNat]
  omega
theorem sb_chr : ∀ b, b < 32 → (((97 + nI b) - 1).toUInt32 % 65536).toInt32 = nI (96 + b) := by decide
def yB (p : Pl) (i : Nat) : List Int32 := tS14 ++ [nI 32] ++ nmB (p.2 0 i) ++ [nI 32] ++ numB (p.2 1 i).toNatClampNeg ++ [nI 32] ++ numB (p.2 2 i).toNatClampNeg ++ [nI 59]
def sB (p : Pl) (i : Nat) : List Int32 := tS15 ++ [nI 32] ++ nmB (p.2 3 i) ++ [nI 32] ++ numB (p.2 4 i).toNatClampNeg ++ [nI 59]
def zB (p : Pl) (i : Nat) : List Int32 := tS16 ++ [nI 32] ++ nmB (p.2 5 i) ++ [nI 32] ++ numB (p.2 6 i).toNatClampNeg ++ [nI 32] ++ numB (p.2 7 i).toNatClampNeg ++ [nI 59]
def ctB (p : Pl) (ny ns nz : Nat) : List Int32 := (List.range' 0 ny).flatMap (yB p) ++ (List.range' 0 ns).flatMap (sB p) ++ (List.range' 0 nz).flatMap (zB p)
theorem dX6_writeName_3 : decode cX6_writeName 3 = .ok (.iload_n 2, 1) := by decide +kernel
theorem dX6_writeName_4 : decode cX6_writeName 4 = .ok (.ifCond .lt 35, 3) := by decide +kernel
theorem dX6_writeName_7 : decode cX6_writeName 7 = .ok (.iload_n 1, 1) := by decide +kernel
theorem dX6_writeName_8 : decode cX6_writeName 8 = .ok (.iload_n 2, 1) := by decide +kernel
theorem dX6_writeName_9 : decode cX6_writeName 9 = .ok (.ishr, 1) := by decide +kernel
theorem dX6_writeName_10 : decode cX6_writeName 10 = .ok (.bipush 31, 2) := by decide +kernel
theorem dX6_writeName_12 : decode cX6_writeName 12 = .ok (.iand, 1) := by decide +kernel
theorem dX6_writeName_13 : decode cX6_writeName 13 = .ok (.istore_n 3, 1) := by decide +kernel
theorem dX6_writeName_14 : decode cX6_writeName 14 = .ok (.iload_n 3, 1) := by decide +kernel
theorem dX6_writeName_15 : decode cX6_writeName 15 = .ok (.ifCond .eq 18, 3) := by decide +kernel
theorem dX6_writeName_18 : decode cX6_writeName 18 = .ok (.aload_n 0, 1) := by decide +kernel
theorem dX6_writeName_19 : decode cX6_writeName 19 = .ok (.getfield 26, 3) := by decide +kernel
theorem dX6_writeName_22 : decode cX6_writeName 22 = .ok (.bipush 97, 2) := by decide +kernel
theorem dX6_writeName_24 : decode cX6_writeName 24 = .ok (.iload_n 3, 1) := by decide +kernel
theorem dX6_writeName_25 : decode cX6_writeName 25 = .ok (.iadd, 1) := by decide +kernel
theorem dX6_writeName_26 : decode cX6_writeName 26 = .ok (.iconst 1, 1) := by decide +kernel
theorem dX6_writeName_27 : decode cX6_writeName 27 = .ok (.isub, 1) := by decide +kernel
theorem dX6_writeName_28 : decode cX6_writeName 28 = .ok (.i2c, 1) := by decide +kernel
theorem dX6_writeName_29 : decode cX6_writeName 29 = .ok (.invokevirtual 298, 3) := by decide +kernel
theorem dX6_writeName_32 : decode cX6_writeName 32 = .ok (.pop, 1) := by decide +kernel
theorem dX6_writeName_33 : decode cX6_writeName 33 = .ok (.iinc 2 (-5), 3) := by decide +kernel
theorem dX6_writeName_36 : decode cX6_writeName 36 = .ok (.goto (-33), 3) := by decide +kernel
set_option maxRecDepth 20000 in
theorem wn_step {l : Launch} {G : GM} {K : Nat → Option va_E} {w0 : Wd} {X N : Nat} {Q : Option Value → List va_E → Prop} (hX2 : X ≤ 2000) {x : Int32} {s : Nat} (hs : s ≤ 25) {T : List Int32} {h : List va_E} {k u : Nat} (t : TS G K w0 T h X N k u) (hX : T.length + (nmB1 x s).length ≤ X) (kk : ∀ (h1 : List va_E) (k1 u1 : Nat), TS G K w0 (T ++ nmB1 x s) h1 X N k1 u1 → Tr l G mX6_writeName 7 k1 u1 3 [(2, .int (nI s + Int32.ofInt (-5))), (0, .ref (gz G + 0)), (1, .int x)] [] h1 Q) : Tr l G mX6_writeName 7 k u 3 [(2, .int (nI s)), (0, .ref (gz G + 0)), (1, .int x)] [] h Q := by
  obtain ⟨b, hb, eb⟩ := sb_and31 (x >>> (nI s &&& 31))
  by_cases c : nI b = 0
  · have e0 : nmB1 x s = [] := by unfold nmB1; rw [eb, if_pos c]
    rw [e0, List.append_nil] at kk
    refine am_iload_n dX6_writeName_3 0 rfl ?_
    refine am_if_lt dX6_writeName_4 (by decide : ((4 : Nat) : Int) + (35) = ((39 : Nat) : Int)) (fun zq => absurd zq (nI_pos (by omega))) (fun _ => ?_)
    refine am_iload_n dX6_writeName_7 2 rfl ?_
    refine am_iload_n dX6_writeName_8 0 rfl ?_
    refine am_ishr dX6_writeName_9 ?_
    refine am_bipush (v := 31) dX6_writeName_10 (by decide) ?_
    refine am_iand dX6_writeName_12 ?_
    rw [eb]
    refine am_istore_n dX6_writeName_13 (by decide) (lv' := [(3, .int (nI b)), (2, .int (nI s)), (0, .ref (gz G + 0)), (1, .int x)]) rfl ?_
    refine am_iload_n dX6_writeName_14 0 rfl ?_
    refine am_if_eq dX6_writeName_15 (by decide : ((15 : Nat) : Int) + (18) = ((33 : Nat) : Int)) (fun _ => ?_) (fun zq => absurd c zq)
    refine am_iinc (v := (nI s + Int32.ofInt (-5))) dX6_writeName_33 1 rfl rfl (by decide) (lv' := [(2, .int (nI s + Int32.ofInt (-5))), (3, .int (nI b)), (0, .ref (gz G + 0)), (1, .int x)]) rfl ?_
    refine am_goto dX6_writeName_36 (by decide : ((36 : Nat) : Int) + (-33) = ((3 : Nat) : Int)) ?_
    refine am_lv [0, 2, 3] rfl ?_
    exact kk _ _ _ t
  · have e0 : nmB1 x s = [nI (96 + b)] := by unfold nmB1; rw [eb, if_neg c, nI_clamp (by omega)]
    rw [e0] at kk hX
    refine am_iload_n dX6_writeName_3 0 rfl ?_
    refine am_if_lt dX6_writeName_4 (by decide : ((4 : Nat) : Int) + (35) = ((39 : Nat) : Int)) (fun zq => absurd zq (nI_pos (by omega))) (fun _ => ?_)
    refine am_iload_n dX6_writeName_7 2 rfl ?_
    refine am_iload_n dX6_writeName_8 0 rfl ?_
    refine am_ishr dX6_writeName_9 ?_
    refine am_bipush (v := 31) dX6_writeName_10 (by decide) ?_
    refine am_iand dX6_writeName_12 ?_
    rw [eb]
    refine am_istore_n dX6_writeName_13 (by decide) (lv' := [(3, .int (nI b)), (2, .int (nI s)), (0, .ref (gz G + 0)), (1, .int x)]) rfl ?_
    refine am_iload_n dX6_writeName_14 0 rfl ?_
    refine am_if_eq dX6_writeName_15 (by decide : ((15 : Nat) : Int) + (18) = ((33 : Nat) : Int)) (fun zq => absurd zq c) (fun _ => ?_)
    refine am_aload_n dX6_writeName_18 2 rfl ?_
    refine am_get dX6_writeName_19 kGX6_26 (ts_c0 t) rfl ?_
    refine am_bipush (v := 97) dX6_writeName_22 (by decide) ?_
    refine am_iload_n dX6_writeName_24 0 rfl ?_
    refine am_iadd dX6_writeName_25 ?_
    refine am_iconst (v := 1) dX6_writeName_26 (by decide) ?_
    refine am_isub dX6_writeName_27 ?_
    refine am_i2c (v := (nI (96 + b))) dX6_writeName_28 (sb_chr b hb) ?_
    refine am_tsC (b := 96 + b) t rfl (by omega) (by have : [nI (96 + b)].length = 1 := rfl; omega) hX2 dX6_writeName_29 kMX6_298 (Nat.le_of_ble_eq_true rfl) (by decide) (fun h1 k1 u1 t1 => ?_)
    refine am_pop dX6_writeName_32 rfl ?_
    refine am_iinc (v := (nI s + Int32.ofInt (-5))) dX6_writeName_33 1 rfl rfl (by decide) (lv' := [(2, .int (nI s + Int32.ofInt (-5))), (3, .int (nI b)), (0, .ref (gz G + 0)), (1, .int x)]) rfl ?_
    refine am_goto dX6_writeName_36 (by decide : ((36 : Nat) : Int) + (-33) = ((3 : Nat) : Int)) ?_
    refine am_lv [0, 2, 3] rfl ?_
    exact kk _ _ _ t1
theorem dX6_writeName_0 : decode cX6_writeName 0 = .ok (.bipush 25, 2) := by decide +kernel
theorem dX6_writeName_2 : decode cX6_writeName 2 = .ok (.istore_n 2, 1) := by decide +kernel
theorem dX6_writeName_39 : decode cX6_writeName 39 = .ok (.return_, 1) := by decide +kernel
set_option maxRecDepth 20000 in
theorem ctX6_writeName {l : Launch} {G : GM} {K : Nat → Option va_E} {w0 : Wd} {x : Int32} {T : List Int32} {h : List va_E} {m : Nat} (t : TB G K w0 T h m) (hX : T.length + (nmB x).length ≤ 2000) : Ct l G mX6_writeName 7 (cK (T.length + (nmB x).length) m) (cU (T.length + (nmB x).length) m) [.ref (gz G + 0), .int x] h (fun r h1 => r = none ∧ TB G K w0 (T ++ nmB x) h1 (cN (T.length + (nmB x).length) m)) := by
  have t0 := ts_start t (T.length + (nmB x).length)
  have hl : (nmB x).length = (nmB1 x 25).length + (nmB1 x 20).length + (nmB1 x 15).length + (nmB1 x 10).length + (nmB1 x 5).length + (nmB1 x 0).length := by unfold nmB; simp only [List.length_append]
  show Tr l G mX6_writeName 7 _ _ 0 [(0, .ref (gz G + 0)), (1, .int x)] [] h _
  generalize hXX : T.length + (nmB x).length = X at *
  generalize cN X m = N at *
  generalize cK X m = kk at *
  generalize cU X m = uu at *
  refine am_bipush (v := 25) dX6_writeName_0 (by decide) ?_
  refine am_istore_n dX6_writeName_2 (by decide) (lv' := [(2, .int 25), (0, .ref (gz G + 0)), (1, .int x)]) rfl ?_
  refine wn_step hX (s := 25) (by decide) t0 (by first | omega | (simp only [List.length_append]; omega)) (fun h1 k1 u1 t1 => ?_)
  rw [show nI 25 + Int32.ofInt (-5) = nI 20 from by decide]
  refine wn_step hX (s := 20) (by decide) t1 (by first | omega | (simp only [List.length_append]; omega)) (fun h2 k2 u2 t2 => ?_)
  rw [show nI 20 + Int32.ofInt (-5) = nI 15 from by decide]
  refine wn_step hX (s := 15) (by decide) t2 (by first | omega | (simp only [List.length_append]; omega)) (fun h3 k3 u3 t3 => ?_)
  rw [show nI 15 + Int32.ofInt (-5) = nI 10 from by decide]
  refine wn_step hX (s := 10) (by decide) t3 (by first | omega | (simp only [List.length_append]; omega)) (fun h4 k4 u4 t4 => ?_)
  rw [show nI 10 + Int32.ofInt (-5) = nI 5 from by decide]
  refine wn_step hX (s := 5) (by decide) t4 (by first | omega | (simp only [List.length_append]; omega)) (fun h5 k5 u5 t5 => ?_)
  rw [show nI 5 + Int32.ofInt (-5) = nI 0 from by decide]
  refine wn_step hX (s := 0) (by decide) t5 (by first | omega | (simp only [List.length_append]; omega)) (fun h6 k6 u6 t6 => ?_)
  refine am_iload_n dX6_writeName_3 0 rfl ?_
  refine am_if_lt dX6_writeName_4 (by decide : ((4 : Nat) : Int) + (35) = ((39 : Nat) : Int)) (fun _ => ?_) (fun zq => absurd (by decide) zq)
  have t7 : TS G K w0 (T ++ nmB x) h6 X N k6 u6 := by unfold nmB; simp only [List.append_assoc] at t6 ⊢; exact t6
  exact am_return dX6_writeName_39 rfl ⟨rfl, ts_end t7 (by rw [List.length_append]; omega)⟩
theorem dX6_kindWord_0 : decode cX6_kindWord 0 = .ok (.iload_n 0, 1) := by decide +kernel
theorem dX6_kindWord_1 : decode cX6_kindWord 1 = .ok (.ifCond .ne 7, 3) := by decide +kernel
theorem dX6_kindWord_4 : decode cX6_kindWord 4 = .ok (.ldc_w 372, 3) := by decide +kernel
theorem dX6_kindWord_7 : decode cX6_kindWord 7 = .ok (.areturn, 1) := by decide +kernel
set_option maxRecDepth 20000 in
theorem ctX6_kind0 {l : Launch} {G : GM} {h : List va_E} : Ct l G mX6_kindWord 0 0 0 [.int 0] h (fun r h1 => r = some (.ref (gS G 18)) ∧ h1 = h) := by
  show Tr l G mX6_kindWord 0 0 0 0 [(0, .int 0)] [] h _
  refine am_iload_n dX6_kindWord_0 0 rfl ?_
  refine am_if_ne dX6_kindWord_1 (by decide : ((1 : Nat) : Int) + (7) = ((8 : Nat) : Int)) (fun zq => absurd zq (fun z => z rfl)) (fun _ => ?_)
  refine am_ldcwS (j := 18) dX6_kindWord_4 rfl ?_
  exact am_areturn dX6_kindWord_7 rfl (Or.inl ⟨_, rfl⟩) ⟨rfl, rfl⟩
theorem dX6_kindWord_8 : decode cX6_kindWord 8 = .ok (.iload_n 0, 1) := by decide +kernel
theorem dX6_kindWord_9 : decode cX6_kindWord 9 = .ok (.iconst 1, 1) := by decide +kernel
theorem dX6_kindWord_10 : decode cX6_kindWord 10 = .ok (.if_icmp .ne 9, 3) := by decide +kernel
theorem dX6_kindWord_13 : decode cX6_kindWord 13 = .ok (.ldc_w 374, 3) := by decide +kernel
theorem dX6_kindWord_16 : decode cX6_kindWord 16 = .ok (.goto 6, 3) := by decide +kernel
theorem dX6_kindWord_22 : decode cX6_kindWord 22 = .ok (.areturn, 1) := by decide +kernel
set_option maxRecDepth 20000 in
theorem ctX6_kind1 {l : Launch} {G : GM} {h : List va_E} : Ct l G mX6_kindWord 0 0 0 [.int 1] h (fun r h1 => r = some (.ref (gS G 19)) ∧ h1 = h) := by
  show Tr l G mX6_kindWord 0 0 0 0 [(0, .int 1)] [] h _
  refine am_iload_n dX6_kindWord_0 0 rfl ?_
  refine am_if_ne dX6_kindWord_1 (by decide : ((1 : Nat) : Int) + (7) = ((8 : Nat) : Int)) (fun _ => ?_) (fun zq => absurd zq (by decide))
  refine am_iload_n dX6_kindWord_8 0 rfl ?_
  refine am_iconst (v := 1) dX6_kindWord_9 (by decide) ?_
  refine am_icmp_ne dX6_kindWord_10 (by decide : ((10 : Nat) : Int) + (9) = ((19 : Nat) : Int)) (fun zq => absurd zq (fun z => z rfl)) (fun _ => ?_)
  refine am_ldcwS (j := 19) dX6_kindWord_13 rfl ?_
  refine am_goto dX6_kindWord_16 (by decide : ((16 : Nat) : Int) + (6) = ((22 : Nat) : Int)) ?_
  exact am_areturn dX6_kindWord_22 rfl (Or.inl ⟨_, rfl⟩) ⟨rfl, rfl⟩
theorem dX6_kindWord_19 : decode cX6_kindWord 19 = .ok (.ldc_w 376, 3) := by decide +kernel
set_option maxRecDepth 20000 in
theorem ctX6_kind2 {l : Launch} {G : GM} {h : List va_E} : Ct l G mX6_kindWord 0 0 0 [.int 2] h (fun r h1 => r = some (.ref (gS G 20)) ∧ h1 = h) := by
  show Tr l G mX6_kindWord 0 0 0 0 [(0, .int 2)] [] h _
  refine am_iload_n dX6_kindWord_0 0 rfl ?_
  refine am_if_ne dX6_kindWord_1 (by decide : ((1 : Nat) : Int) + (7) = ((8 : Nat) : Int)) (fun _ => ?_) (fun zq => absurd zq (by decide))
  refine am_iload_n dX6_kindWord_8 0 rfl ?_
  refine am_iconst (v := 1) dX6_kindWord_9 (by decide) ?_
  refine am_icmp_ne dX6_kindWord_10 (by decide : ((10 : Nat) : Int) + (9) = ((19 : Nat) : Int)) (fun _ => ?_) (fun zq => absurd zq (by decide))
  refine am_ldcwS (j := 20) dX6_kindWord_19 rfl ?_
  exact am_areturn dX6_kindWord_22 rfl (Or.inl ⟨_, rfl⟩) ⟨rfl, rfl⟩
theorem dX6_writeCatalogue_2 : decode cX6_writeCatalogue 2 = .ok (.iload_n 2, 1) := by decide +kernel
theorem dX6_writeCatalogue_3 : decode cX6_writeCatalogue 3 = .ok (.aload_n 1, 1) := by decide +kernel
theorem dX6_writeCatalogue_4 : decode cX6_writeCatalogue 4 = .ok (.getfield 105, 3) := by decide +kernel
theorem dX6_writeCatalogue_7 : decode cX6_writeCatalogue 7 = .ok (.if_icmp .ge 84, 3) := by decide +kernel
theorem dX6_writeCatalogue_10 : decode cX6_writeCatalogue 10 = .ok (.aload_n 0, 1) := by decide +kernel
theorem dX6_writeCatalogue_11 : decode cX6_writeCatalogue 11 = .ok (.getfield 26, 3) := by decide +kernel
theorem dX6_writeCatalogue_14 : decode cX6_writeCatalogue 14 = .ok (.ldc_w 351, 3) := by decide +kernel
theorem dX6_writeCatalogue_17 : decode cX6_writeCatalogue 17 = .ok (.invokevirtual 294, 3) := by decide +kernel
theorem dX6_writeCatalogue_20 : decode cX6_writeCatalogue 20 = .ok (.bipush 32, 2) := by decide +kernel
theorem dX6_writeCatalogue_22 : decode cX6_writeCatalogue 22 = .ok (.invokevirtual 298, 3) := by decide +kernel
theorem dX6_writeCatalogue_25 : decode cX6_writeCatalogue 25 = .ok (.pop, 1) := by decide +kernel
theorem dX6_writeCatalogue_26 : decode cX6_writeCatalogue 26 = .ok (.aload_n 0, 1) := by decide +kernel
theorem dX6_writeCatalogue_27 : decode cX6_writeCatalogue 27 = .ok (.aload_n 1, 1) := by decide +kernel
theorem dX6_writeCatalogue_28 : decode cX6_writeCatalogue 28 = .ok (.getfield 100, 3) := by decide +kernel
theorem dX6_writeCatalogue_31 : decode cX6_writeCatalogue 31 = .ok (.iload_n 2, 1) := by decide +kernel
theorem dX6_writeCatalogue_32 : decode cX6_writeCatalogue 32 = .ok (.invokestatic 144, 3) := by decide +kernel
theorem dX6_writeCatalogue_35 : decode cX6_writeCatalogue 35 = .ok (.invokevirtual 316, 3) := by decide +kernel
theorem dX6_writeCatalogue_38 : decode cX6_writeCatalogue 38 = .ok (.aload_n 0, 1) := by decide +kernel
theorem dX6_writeCatalogue_39 : decode cX6_writeCatalogue 39 = .ok (.getfield 26, 3) := by decide +kernel
theorem dX6_writeCatalogue_42 : decode cX6_writeCatalogue 42 = .ok (.bipush 32, 2) := by decide +kernel
theorem dX6_writeCatalogue_44 : decode cX6_writeCatalogue 44 = .ok (.invokevirtual 298, 3) := by decide +kernel
theorem dX6_writeCatalogue_47 : decode cX6_writeCatalogue 47 = .ok (.aload_n 1, 1) := by decide +kernel
theorem dX6_writeCatalogue_48 : decode cX6_writeCatalogue 48 = .ok (.getfield 353, 3) := by decide +kernel
theorem dX6_writeCatalogue_51 : decode cX6_writeCatalogue 51 = .ok (.iload_n 2, 1) := by decide +kernel
theorem dX6_writeCatalogue_52 : decode cX6_writeCatalogue 52 = .ok (.invokestatic 144, 3) := by decide +kernel
theorem dX6_writeCatalogue_55 : decode cX6_writeCatalogue 55 = .ok (.invokevirtual 301, 3) := by decide +kernel
theorem dX6_writeCatalogue_58 : decode cX6_writeCatalogue 58 = .ok (.pop, 1) := by decide +kernel
theorem dX6_writeCatalogue_59 : decode cX6_writeCatalogue 59 = .ok (.aload_n 0, 1) := by decide +kernel
theorem dX6_writeCatalogue_60 : decode cX6_writeCatalogue 60 = .ok (.getfield 26, 3) := by decide +kernel
theorem dX6_writeCatalogue_63 : decode cX6_writeCatalogue 63 = .ok (.bipush 32, 2) := by decide +kernel
theorem dX6_writeCatalogue_65 : decode cX6_writeCatalogue 65 = .ok (.invokevirtual 298, 3) := by decide +kernel
theorem dX6_writeCatalogue_68 : decode cX6_writeCatalogue 68 = .ok (.aload_n 1, 1) := by decide +kernel
theorem dX6_writeCatalogue_69 : decode cX6_writeCatalogue 69 = .ok (.getfield 356, 3) := by decide +kernel
theorem dX6_writeCatalogue_72 : decode cX6_writeCatalogue 72 = .ok (.iload_n 2, 1) := by decide +kernel
theorem dX6_writeCatalogue_73 : decode cX6_writeCatalogue 73 = .ok (.invokestatic 144, 3) := by decide +kernel
theorem dX6_writeCatalogue_76 : decode cX6_writeCatalogue 76 = .ok (.invokevirtual 301, 3) := by decide +kernel
theorem dX6_writeCatalogue_79 : decode cX6_writeCatalogue 79 = .ok (.bipush 59, 2) := by decide +kernel
theorem dX6_writeCatalogue_81 : decode cX6_writeCatalogue 81 = .ok (.invokevirtual 298, 3) := by decide +kernel
theorem dX6_writeCatalogue_84 : decode cX6_writeCatalogue 84 = .ok (.pop, 1) := by decide +kernel
theorem dX6_writeCatalogue_85 : decode cX6_writeCatalogue 85 = .ok (.iinc 2 1, 3) := by decide +kernel
theorem dX6_writeCatalogue_88 : decode cX6_writeCatalogue 88 = .ok (.goto (-86), 3) := by decide +kernel
set_option maxRecDepth 20000 in
theorem wc_loop1 {l : Launch} {G : GM} {K : Nat → Option va_E} {w0 : Wd} {X N : Nat} {Q : Option Value → List va_E → Prop} (hX2 : X ≤ 2000) {ny : Nat} (hc : (w0.2.2.1 1).1 0 = nI ny) (hn : ny ≤ 6) (hz : ∀ i, i < ny → ∃ a b : Nat, a < 10000 ∧ b < 10000 ∧ (w0.2.2.1 1).2 1 i = nI a ∧ (w0.2.2.1 1).2 2 i = nI b) : ∀ (r i : Nat) (T : List Int32) (h : List va_E) (k u : Nat), i + r = ny → TS G K w0 T h X N k u → T.length + ((List.range' i r).flatMap (yB (w0.2.2.1 1))).length ≤ X → (∀ (h1 : List va_E) (k1 u1 : Nat), TS G K w0 (T ++ (List.range' i r).flatMap (yB (w0.2.2.1 1))) h1 X N k1 u1 → Tr l G mX6_writeCatalogue 8 k1 u1 91 [(0, .ref (gz G + 0)), (1, .ref (gz G + (21 + 1)))] [] h1 Q) → Tr l G mX6_writeCatalogue 8 k u 2 [(2, .int (nI i)), (0, .ref (gz G + 0)), (1, .ref (gz G + (21 + 1)))] [] h Q := by
  intro r
  induction r with
  | zero =>
    intro i T h k u hi t hX kk
    refine am_iload_n dX6_writeCatalogue_2 0 rfl ?_
    refine am_aload_n dX6_writeCatalogue_3 2 rfl ?_
    refine am_get dX6_writeCatalogue_4 kGX6_105 (pl_1 (ts_P1 t)) rfl ?_
    refine am_icmp_ge dX6_writeCatalogue_7 (by decide : ((7 : Nat) : Int) + (84) = ((91 : Nat) : Int)) (fun _ => ?_) (fun zq => absurd (show (w0.2.2.1 1).1 0 ≤ nI i by rw [hc, nI_leI (by omega) (by omega)]; omega) zq)
    refine am_lv [1, 2] rfl ?_
    rw [show (List.range' i 0).flatMap (yB (w0.2.2.1 1)) = [] from rfl, List.append_nil] at kk
    exact kk _ _ _ t
  | succ r ih =>
    intro i T h k u hi t hX kk
    rw [List.range'_succ, List.flatMap_cons] at hX kk
    obtain ⟨a, b, la, lb, ea, eb⟩ := hz i (by omega)
    have hy : (yB (w0.2.2.1 1) i).length = 4 + 1 + (nmB ((w0.2.2.1 1).2 0 i)).length + 1 + sbW a + 1 + sbW b + 1 := by unfold yB; rw [ea, eb, nI_clamp (n := a) (by omega), nI_clamp (n := b) (by omega)]; simp only [List.length_append, List.length_cons, List.length_nil, numB_len, tS11_len, tS12_len, tS13_len, tS14_len, tS15_len, tS16_len, tS17_len, tS18_len, tS19_len, tS20_len]
    rw [List.length_append] at hX
    refine am_iload_n dX6_writeCatalogue_2 0 rfl ?_
    refine am_aload_n dX6_writeCatalogue_3 2 rfl ?_
    refine am_get dX6_writeCatalogue_4 kGX6_105 (pl_1 (ts_P1 t)) rfl ?_
    refine am_icmp_ge dX6_writeCatalogue_7 (by decide : ((7 : Nat) : Int) + (84) = ((91 : Nat) : Int)) (fun zq => absurd zq (show ¬ (w0.2.2.1 1).1 0 ≤ nI i by rw [hc, nI_leI (by omega) (by omega)]; omega)) (fun _ => ?_)
    refine am_aload_n dX6_writeCatalogue_10 1 rfl ?_
    refine am_get dX6_writeCatalogue_11 kGX6_26 (ts_c0 t) rfl ?_
    refine am_ldcwS (j := 14) dX6_writeCatalogue_14 rfl ?_
    refine am_tsS (j := 14) (qs := sq14) t rfl (by simp only [List.length_append, List.length_cons, List.length_nil, numB_len, tS11_len, tS12_len, tS13_len, tS14_len, tS15_len, tS16_len, tS17_len, tS18_len, tS19_len, tS20_len]; omega) hX2 dX6_writeCatalogue_17 kMX6_294 (Nat.le_of_ble_eq_true rfl) (by decide) (fun h1 k1 u1 t1 => ?_)
    have t1 : TS G K w0 (T ++ tS14) _ X N _ _ := t1
    refine am_bipush (v := 32) dX6_writeCatalogue_20 (by decide) ?_
    refine am_tsC (b := 32) t1 rfl (by decide) (by simp only [List.length_append, List.length_cons, List.length_nil, numB_len, tS11_len, tS12_len, tS13_len, tS14_len, tS15_len, tS16_len, tS17_len, tS18_len, tS19_len, tS20_len]; omega) hX2 dX6_writeCatalogue_22 kMX6_298 (Nat.le_of_ble_eq_true rfl) (by decide) (fun h2 k2 u2 t2 => ?_)
    have t2 : TS G K w0 ((T ++ tS14) ++ [nI 32]) _ X N _ _ := t2
    refine am_pop dX6_writeCatalogue_25 rfl ?_
    refine am_aload_n dX6_writeCatalogue_26 1 rfl ?_
    refine am_aload_n dX6_writeCatalogue_27 2 rfl ?_
    refine am_get dX6_writeCatalogue_28 kGX6_100 (pl_1 (ts_P1 t2)) rfl ?_
    refine am_iload_n dX6_writeCatalogue_31 0 rfl ?_
    refine am_callS (As := [.ref (gz G + (21 + 2)), .int (nI i)]) (rest := [.ref (gz G + 0)]) dX6_writeCatalogue_32 kMX6_144 rfl rfl (Nat.le_of_ble_eq_true rfl) (d2 := 0) (by decide) (k2 := 0) (Nat.zero_le _) (u2 := 0) (Nat.zero_le _) (Nat.le_of_ble_eq_true rfl) (ctX6_at (pl_r0 (ts_P1 t2)) (by decide) (nI i)) (fun v hh q => ?_)
    obtain ⟨rfl, rfl⟩ := q
    rw [hz_at ((w0.2.2.1 1).2 0) (show i < 6 by omega) (by decide)]
    refine am_tsV (L := nmB ((w0.2.2.1 1).2 0 i)) (i := 0) (As := [.int ((w0.2.2.1 1).2 0 i)]) (rest := []) (d2 := 7) t2 (by simp only [List.length_append, List.length_cons, List.length_nil, numB_len, tS11_len, tS12_len, tS13_len, tS14_len, tS15_len, tS16_len, tS17_len, tS18_len, tS19_len, tS20_len]; omega) dX6_writeCatalogue_35 kMX6_316 rfl (ts_c0 t2) rfl rfl (Nat.le_of_ble_eq_true rfl) (by decide) (Nat.le_of_ble_eq_true rfl) (fun m tm => ctX6_writeName tm (by simp only [List.length_append, List.length_cons, List.length_nil, numB_len, tS11_len, tS12_len, tS13_len, tS14_len, tS15_len, tS16_len, tS17_len, tS18_len, tS19_len, tS20_len]; omega)) (fun h3 k3 u3 t3 => ?_)
    have t3 : TS G K w0 (((T ++ tS14) ++ [nI 32]) ++ nmB ((w0.2.2.1 1).2 0 i)) _ X N _ _ := t3
    refine am_aload_n dX6_writeCatalogue_38 1 rfl ?_
    refine am_get dX6_writeCatalogue_39 kGX6_26 (ts_c0 t3) rfl ?_
    refine am_bipush (v := 32) dX6_writeCatalogue_42 (by decide) ?_
    refine am_tsC (b := 32) t3 rfl (by decide) (by simp only [List.length_append, List.length_cons, List.length_nil, numB_len, tS11_len, tS12_len, tS13_len, tS14_len, tS15_len, tS16_len, tS17_len, tS18_len, tS19_len, tS20_len]; omega) hX2 dX6_writeCatalogue_44 kMX6_298 (Nat.le_of_ble_eq_true rfl) (by decide) (fun h4 k4 u4 t4 => ?_)
    have t4 : TS G K w0 ((((T ++ tS14) ++ [nI 32]) ++ nmB ((w0.2.2.1 1).2 0 i)) ++ [nI 32]) _ X N _ _ := t4
    refine am_aload_n dX6_writeCatalogue_47 2 rfl ?_
    refine am_get dX6_writeCatalogue_48 kGX6_353 (pl_1 (ts_P1 t4)) rfl ?_
    refine am_iload_n dX6_writeCatalogue_51 0 rfl ?_
    refine am_callS (As := [.ref (gz G + (21 + 3)), .int (nI i)]) (rest := [.ref (gz G + 19)]) dX6_writeCatalogue_52 kMX6_144 rfl rfl (Nat.le_of_ble_eq_true rfl) (d2 := 0) (by decide) (k2 := 0) (Nat.zero_le _) (u2 := 0) (Nat.zero_le _) (Nat.le_of_ble_eq_true rfl) (ctX6_at (pl_r1 (ts_P1 t4)) (by decide) (nI i)) (fun v hh q => ?_)
    obtain ⟨rfl, rfl⟩ := q
    rw [hz_at ((w0.2.2.1 1).2 1) (show i < 6 by omega) (by decide), ea]
    refine am_tsI (z := a) t4 (la) (by simp only [List.length_append, List.length_cons, List.length_nil, numB_len, tS11_len, tS12_len, tS13_len, tS14_len, tS15_len, tS16_len, tS17_len, tS18_len, tS19_len, tS20_len]; omega) hX2 dX6_writeCatalogue_55 kMX6_301 (Nat.le_of_ble_eq_true rfl) (by decide) (fun h5 k5 u5 t5 => ?_)
    have t5 : TS G K w0 (((((T ++ tS14) ++ [nI 32]) ++ nmB ((w0.2.2.1 1).2 0 i)) ++ [nI 32]) ++ numB a) _ X N _ _ := t5
    refine am_pop dX6_writeCatalogue_58 rfl ?_
    refine am_aload_n dX6_writeCatalogue_59 1 rfl ?_
    refine am_get dX6_writeCatalogue_60 kGX6_26 (ts_c0 t5) rfl ?_
    refine am_bipush (v := 32) dX6_writeCatalogue_63 (by decide) ?_
    refine am_tsC (b := 32) t5 rfl (by decide) (by simp only [List.length_append, List.length_cons, List.length_nil, numB_len, tS11_len, tS12_len, tS13_len, tS14_len, tS15_len, tS16_len, tS17_len, tS18_len, tS19_len, tS20_len]; omega) hX2 dX6_writeCatalogue_65 kMX6_298 (Nat.le_of_ble_eq_true rfl) (by decide) (fun h6 k6 u6 t6 => ?_)
    have t6 : TS G K w0 ((((((T ++ tS14) ++ [nI 32]) ++ nmB ((w0.2.2.1 1).2 0 i)) ++ [nI 32]) ++ numB a) ++ [nI 32]) _ X N _ _ := t6
    refine am_aload_n dX6_writeCatalogue_68 2 rfl ?_
    refine am_get dX6_writeCatalogue_69 kGX6_356 (pl_1 (ts_P1 t6)) rfl ?_
    refine am_iload_n dX6_writeCatalogue_72 0 rfl ?_
    refine am_callS (As := [.ref (gz G + (21 + 4)), .int (nI i)]) (rest := [.ref (gz G + 19)]) dX6_writeCatalogue_73 kMX6_144 rfl rfl (Nat.le_of_ble_eq_true rfl) (d2 := 0) (by decide) (k2 := 0) (Nat.zero_le _) (u2 := 0) (Nat.zero_le _) (Nat.le_of_ble_eq_true rfl) (ctX6_at (pl_r2 (ts_P1 t6)) (by decide) (nI i)) (fun v hh q => ?_)
    obtain ⟨rfl, rfl⟩ := q
    rw [hz_at ((w0.2.2.1 1).2 2) (show i < 6 by omega) (by decide), eb]
    refine am_tsI (z := b) t6 (lb) (by simp only [List.length_append, List.length_cons, List.length_nil, numB_len, tS11_len, tS12_len, tS13_len, tS14_len, tS15_len, tS16_len, tS17_len, tS18_len, tS19_len, tS20_len]; omega) hX2 dX6_writeCatalogue_76 kMX6_301 (Nat.le_of_ble_eq_true rfl) (by decide) (fun h7 k7 u7 t7 => ?_)
    have t7 : TS G K w0 (((((((T ++ tS14) ++ [nI 32]) ++ nmB ((w0.2.2.1 1).2 0 i)) ++ [nI 32]) ++ numB a) ++ [nI 32]) ++ numB b) _ X N _ _ := t7
    refine am_bipush (v := 59) dX6_writeCatalogue_79 (by decide) ?_
    refine am_tsC (b := 59) t7 rfl (by decide) (by simp only [List.length_append, List.length_cons, List.length_nil, numB_len, tS11_len, tS12_len, tS13_len, tS14_len, tS15_len, tS16_len, tS17_len, tS18_len, tS19_len, tS20_len]; omega) hX2 dX6_writeCatalogue_81 kMX6_298 (Nat.le_of_ble_eq_true rfl) (by decide) (fun h8 k8 u8 t8 => ?_)
    have t8 : TS G K w0 ((((((((T ++ tS14) ++ [nI 32]) ++ nmB ((w0.2.2.1 1).2 0 i)) ++ [nI 32]) ++ numB a) ++ [nI 32]) ++ numB b) ++ [nI 59]) _ X N _ _ := t8
    refine am_pop dX6_writeCatalogue_84 rfl ?_
    refine am_iinc (v := (nI (i + 1))) dX6_writeCatalogue_85 0 rfl (nI_succ i).symm (by decide) (lv' := [(2, .int (nI (i + 1))), (0, .ref (gz G + 0)), (1, .ref (gz G + (21 + 1)))]) rfl ?_
    refine am_goto dX6_writeCatalogue_88 (by decide : ((88 : Nat) : Int) + (-86) = ((2 : Nat) : Int)) ?_
    refine am_lv [0, 1, 2] rfl ?_
    have eT : T ++ yB (w0.2.2.1 1) i = ((((((((T ++ tS14) ++ [nI 32]) ++ nmB ((w0.2.2.1 1).2 0 i)) ++ [nI 32]) ++ numB a) ++ [nI 32]) ++ numB b) ++ [nI 59]) := by unfold yB; rw [ea, eb, nI_clamp (n := a) (by omega), nI_clamp (n := b) (by omega)]; simp only [List.append_assoc]
    rw [← eT] at t8
    exact ih (i + 1) _ _ _ _ (by omega) t8 (by rw [List.length_append]; omega) (fun h9 k9 u9 t9 => kk h9 k9 u9 (by rw [← List.append_assoc]; exact t9))
theorem dX6_writeCatalogue_93 : decode cX6_writeCatalogue 93 = .ok (.iload_n 2, 1) := by decide +kernel
theorem dX6_writeCatalogue_94 : decode cX6_writeCatalogue 94 = .ok (.aload_n 1, 1) := by decide +kernel
theorem dX6_writeCatalogue_95 : decode cX6_writeCatalogue 95 = .ok (.getfield 114, 3) := by decide +kernel
theorem dX6_writeCatalogue_98 : decode cX6_writeCatalogue 98 = .ok (.if_icmp .ge 63, 3) := by decide +kernel
theorem dX6_writeCatalogue_101 : decode cX6_writeCatalogue 101 = .ok (.aload_n 0, 1) := by decide +kernel
theorem dX6_writeCatalogue_102 : decode cX6_writeCatalogue 102 = .ok (.getfield 26, 3) := by decide +kernel
theorem dX6_writeCatalogue_105 : decode cX6_writeCatalogue 105 = .ok (.ldc_w 359, 3) := by decide +kernel
theorem dX6_writeCatalogue_108 : decode cX6_writeCatalogue 108 = .ok (.invokevirtual 294, 3) := by decide +kernel
theorem dX6_writeCatalogue_111 : decode cX6_writeCatalogue 111 = .ok (.bipush 32, 2) := by decide +kernel
theorem dX6_writeCatalogue_113 : decode cX6_writeCatalogue 113 = .ok (.invokevirtual 298, 3) := by decide +kernel
theorem dX6_writeCatalogue_116 : decode cX6_writeCatalogue 116 = .ok (.pop, 1) := by decide +kernel
theorem dX6_writeCatalogue_117 : decode cX6_writeCatalogue 117 = .ok (.aload_n 0, 1) := by decide +kernel
theorem dX6_writeCatalogue_118 : decode cX6_writeCatalogue 118 = .ok (.aload_n 1, 1) := by decide +kernel
theorem dX6_writeCatalogue_119 : decode cX6_writeCatalogue 119 = .ok (.getfield 111, 3) := by decide +kernel
theorem dX6_writeCatalogue_122 : decode cX6_writeCatalogue 122 = .ok (.iload_n 2, 1) := by decide +kernel
theorem dX6_writeCatalogue_123 : decode cX6_writeCatalogue 123 = .ok (.invokestatic 144, 3) := by decide +kernel
theorem dX6_writeCatalogue_126 : decode cX6_writeCatalogue 126 = .ok (.invokevirtual 316, 3) := by decide +kernel
theorem dX6_writeCatalogue_129 : decode cX6_writeCatalogue 129 = .ok (.aload_n 0, 1) := by decide +kernel
theorem dX6_writeCatalogue_130 : decode cX6_writeCatalogue 130 = .ok (.getfield 26, 3) := by decide +kernel
theorem dX6_writeCatalogue_133 : decode cX6_writeCatalogue 133 = .ok (.bipush 32, 2) := by decide +kernel
theorem dX6_writeCatalogue_135 : decode cX6_writeCatalogue 135 = .ok (.invokevirtual 298, 3) := by decide +kernel
theorem dX6_writeCatalogue_138 : decode cX6_writeCatalogue 138 = .ok (.aload_n 1, 1) := by decide +kernel
theorem dX6_writeCatalogue_139 : decode cX6_writeCatalogue 139 = .ok (.getfield 361, 3) := by decide +kernel
theorem dX6_writeCatalogue_142 : decode cX6_writeCatalogue 142 = .ok (.iload_n 2, 1) := by decide +kernel
theorem dX6_writeCatalogue_143 : decode cX6_writeCatalogue 143 = .ok (.invokestatic 144, 3) := by decide +kernel
theorem dX6_writeCatalogue_146 : decode cX6_writeCatalogue 146 = .ok (.invokevirtual 301, 3) := by decide +kernel
theorem dX6_writeCatalogue_149 : decode cX6_writeCatalogue 149 = .ok (.bipush 59, 2) := by decide +kernel
theorem dX6_writeCatalogue_151 : decode cX6_writeCatalogue 151 = .ok (.invokevirtual 298, 3) := by decide +kernel
theorem dX6_writeCatalogue_154 : decode cX6_writeCatalogue 154 = .ok (.pop, 1) := by decide +kernel
theorem dX6_writeCatalogue_155 : decode cX6_writeCatalogue 155 = .ok (.iinc 2 1, 3) := by decide +kernel
theorem dX6_writeCatalogue_158 : decode cX6_writeCatalogue 158 = .ok (.goto (-65), 3) := by decide +kernel
set_option maxRecDepth 20000 in
theorem wc_loop2 {l : Launch} {G : GM} {K : Nat → Option va_E} {w0 : Wd} {X N : Nat} {Q : Option Value → List va_E → Prop} (hX2 : X ≤ 2000) {ns : Nat} (hc : (w0.2.2.1 1).1 1 = nI ns) (hn : ns ≤ 8) (hz : ∀ i, i < ns → ∃ a : Nat, a < 10000 ∧ (w0.2.2.1 1).2 4 i = nI a) : ∀ (r i : Nat) (T : List Int32) (h : List va_E) (k u : Nat), i + r = ns → TS G K w0 T h X N k u → T.length + ((List.range' i r).flatMap (sB (w0.2.2.1 1))).length ≤ X → (∀ (h1 : List va_E) (k1 u1 : Nat), TS G K w0 (T ++ (List.range' i r).flatMap (sB (w0.2.2.1 1))) h1 X N k1 u1 → Tr l G mX6_writeCatalogue 8 k1 u1 161 [(0, .ref (gz G + 0)), (1, .ref (gz G + (21 + 1)))] [] h1 Q) → Tr l G mX6_writeCatalogue 8 k u 93 [(2, .int (nI i)), (0, .ref (gz G + 0)), (1, .ref (gz G + (21 + 1)))] [] h Q := by
  intro r
  induction r with
  | zero =>
    intro i T h k u hi t hX kk
    refine am_iload_n dX6_writeCatalogue_93 0 rfl ?_
    refine am_aload_n dX6_writeCatalogue_94 2 rfl ?_
    refine am_get dX6_writeCatalogue_95 kGX6_114 (pl_1 (ts_P1 t)) rfl ?_
    refine am_icmp_ge dX6_writeCatalogue_98 (by decide : ((98 : Nat) : Int) + (63) = ((161 : Nat) : Int)) (fun _ => ?_) (fun zq => absurd (show (w0.2.2.1 1).1 1 ≤ nI i by rw [hc, nI_leI (by omega) (by omega)]; omega) zq)
    refine am_lv [1, 2] rfl ?_
    rw [show (List.range' i 0).flatMap (sB (w0.2.2.1 1)) = [] from rfl, List.append_nil] at kk
    exact kk _ _ _ t
  | succ r ih =>
    intro i T h k u hi t hX kk
    rw [List.range'_succ, List.flatMap_cons] at hX kk
    obtain ⟨a, la, ea⟩ := hz i (by omega)
    have hy : (sB (w0.2.2.1 1) i).length = 5 + 1 + (nmB ((w0.2.2.1 1).2 3 i)).length + 1 + sbW a + 1 := by unfold sB; rw [ea, nI_clamp (n := a) (by omega)]; simp only [List.length_append, List.length_cons, List.length_nil, numB_len, tS11_len, tS12_len, tS13_len, tS14_len, tS15_len, tS16_len, tS17_len, tS18_len, tS19_len, tS20_len]
    rw [List.length_append] at hX
    refine am_iload_n dX6_writeCatalogue_93 0 rfl ?_
    refine am_aload_n dX6_writeCatalogue_94 2 rfl ?_
    refine am_get dX6_writeCatalogue_95 kGX6_114 (pl_1 (ts_P1 t)) rfl ?_
    refine am_icmp_ge dX6_writeCatalogue_98 (by decide : ((98 : Nat) : Int) + (63) = ((161 : Nat) : Int)) (fun zq => absurd zq (show ¬ (w0.2.2.1 1).1 1 ≤ nI i by rw [hc, nI_leI (by omega) (by omega)]; omega)) (fun _ => ?_)
    refine am_aload_n dX6_writeCatalogue_101 1 rfl ?_
    refine am_get dX6_writeCatalogue_102 kGX6_26 (ts_c0 t) rfl ?_
    refine am_ldcwS (j := 15) dX6_writeCatalogue_105 rfl ?_
    refine am_tsS (j := 15) (qs := sq15) t rfl (by simp only [List.length_append, List.length_cons, List.length_nil, numB_len, tS11_len, tS12_len, tS13_len, tS14_len, tS15_len, tS16_len, tS17_len, tS18_len, tS19_len, tS20_len]; omega) hX2 dX6_writeCatalogue_108 kMX6_294 (Nat.le_of_ble_eq_true rfl) (by decide) (fun h1 k1 u1 t1 => ?_)
    have t1 : TS G K w0 (T ++ tS15) _ X N _ _ := t1
    refine am_bipush (v := 32) dX6_writeCatalogue_111 (by decide) ?_
    refine am_tsC (b := 32) t1 rfl (by decide) (by simp only [List.length_append, List.length_cons, List.length_nil, numB_len, tS11_len, tS12_len, tS13_len, tS14_len, tS15_len, tS16_len, tS17_len, tS18_len, tS19_len, tS20_len]; omega) hX2 dX6_writeCatalogue_113 kMX6_298 (Nat.le_of_ble_eq_true rfl) (by decide) (fun h2 k2 u2 t2 => ?_)
    have t2 : TS G K w0 ((T ++ tS15) ++ [nI 32]) _ X N _ _ := t2
    refine am_pop dX6_writeCatalogue_116 rfl ?_
    refine am_aload_n dX6_writeCatalogue_117 1 rfl ?_
    refine am_aload_n dX6_writeCatalogue_118 2 rfl ?_
    refine am_get dX6_writeCatalogue_119 kGX6_111 (pl_1 (ts_P1 t2)) rfl ?_
    refine am_iload_n dX6_writeCatalogue_122 0 rfl ?_
    refine am_callS (As := [.ref (gz G + (21 + 5)), .int (nI i)]) (rest := [.ref (gz G + 0)]) dX6_writeCatalogue_123 kMX6_144 rfl rfl (Nat.le_of_ble_eq_true rfl) (d2 := 0) (by decide) (k2 := 0) (Nat.zero_le _) (u2 := 0) (Nat.zero_le _) (Nat.le_of_ble_eq_true rfl) (ctX6_at (pl_r3 (ts_P1 t2)) (by decide) (nI i)) (fun v hh q => ?_)
    obtain ⟨rfl, rfl⟩ := q
    rw [hz_at ((w0.2.2.1 1).2 3) (show i < 8 by omega) (by decide)]
    refine am_tsV (L := nmB ((w0.2.2.1 1).2 3 i)) (i := 0) (As := [.int ((w0.2.2.1 1).2 3 i)]) (rest := []) (d2 := 7) t2 (by simp only [List.length_append, List.length_cons, List.length_nil, numB_len, tS11_len, tS12_len, tS13_len, tS14_len, tS15_len, tS16_len, tS17_len, tS18_len, tS19_len, tS20_len]; omega) dX6_writeCatalogue_126 kMX6_316 rfl (ts_c0 t2) rfl rfl (Nat.le_of_ble_eq_true rfl) (by decide) (Nat.le_of_ble_eq_true rfl) (fun m tm => ctX6_writeName tm (by simp only [List.length_append, List.length_cons, List.length_nil, numB_len, tS11_len, tS12_len, tS13_len, tS14_len, tS15_len, tS16_len, tS17_len, tS18_len, tS19_len, tS20_len]; omega)) (fun h3 k3 u3 t3 => ?_)
    have t3 : TS G K w0 (((T ++ tS15) ++ [nI 32]) ++ nmB ((w0.2.2.1 1).2 3 i)) _ X N _ _ := t3
    refine am_aload_n dX6_writeCatalogue_129 1 rfl ?_
    refine am_get dX6_writeCatalogue_130 kGX6_26 (ts_c0 t3) rfl ?_
    refine am_bipush (v := 32) dX6_writeCatalogue_133 (by decide) ?_
    refine am_tsC (b := 32) t3 rfl (by decide) (by simp only [List.length_append, List.length_cons, List.length_nil, numB_len, tS11_len, tS12_len, tS13_len, tS14_len, tS15_len, tS16_len, tS17_len, tS18_len, tS19_len, tS20_len]; omega) hX2 dX6_writeCatalogue_135 kMX6_298 (Nat.le_of_ble_eq_true rfl) (by decide) (fun h4 k4 u4 t4 => ?_)
    have t4 : TS G K w0 ((((T ++ tS15) ++ [nI 32]) ++ nmB ((w0.2.2.1 1).2 3 i)) ++ [nI 32]) _ X N _ _ := t4
    refine am_aload_n dX6_writeCatalogue_138 2 rfl ?_
    refine am_get dX6_writeCatalogue_139 kGX6_361 (pl_1 (ts_P1 t4)) rfl ?_
    refine am_iload_n dX6_writeCatalogue_142 0 rfl ?_
    refine am_callS (As := [.ref (gz G + (21 + 6)), .int (nI i)]) (rest := [.ref (gz G + 19)]) dX6_writeCatalogue_143 kMX6_144 rfl rfl (Nat.le_of_ble_eq_true rfl) (d2 := 0) (by decide) (k2 := 0) (Nat.zero_le _) (u2 := 0) (Nat.zero_le _) (Nat.le_of_ble_eq_true rfl) (ctX6_at (pl_r4 (ts_P1 t4)) (by decide) (nI i)) (fun v hh q => ?_)
    obtain ⟨rfl, rfl⟩ := q
    rw [hz_at ((w0.2.2.1 1).2 4) (show i < 8 by omega) (by decide), ea]
    refine am_tsI (z := a) t4 (la) (by simp only [List.length_append, List.length_cons, List.length_nil, numB_len, tS11_len, tS12_len, tS13_len, tS14_len, tS15_len, tS16_len, tS17_len, tS18_len, tS19_len, tS20_len]; omega) hX2 dX6_writeCatalogue_146 kMX6_301 (Nat.le_of_ble_eq_true rfl) (by decide) (fun h5 k5 u5 t5 => ?_)
    have t5 : TS G K w0 (((((T ++ tS15) ++ [nI 32]) ++ nmB ((w0.2.2.1 1).2 3 i)) ++ [nI 32]) ++ numB a) _ X N _ _ := t5
    refine am_bipush (v := 59) dX6_writeCatalogue_149 (by decide) ?_
    refine am_tsC (b := 59) t5 rfl (by decide) (by simp only [List.length_append, List.length_cons, List.length_nil, numB_len, tS11_len, tS12_len, tS13_len, tS14_len, tS15_len, tS16_len, tS17_len, tS18_len, tS19_len, tS20_len]; omega) hX2 dX6_writeCatalogue_151 kMX6_298 (Nat.le_of_ble_eq_true rfl) (by decide) (fun h6 k6 u6 t6 => ?_)
    have t6 : TS G K w0 ((((((T ++ tS15) ++ [nI 32]) ++ nmB ((w0.2.2.1 1).2 3 i)) ++ [nI 32]) ++ numB a) ++ [nI 59]) _ X N _ _ := t6
    refine am_pop dX6_writeCatalogue_154 rfl ?_
    refine am_iinc (v := (nI (i + 1))) dX6_writeCatalogue_155 0 rfl (nI_succ i).symm (by decide) (lv' := [(2, .int (nI (i + 1))), (0, .ref (gz G + 0)), (1, .ref (gz G + (21 + 1)))]) rfl ?_
    refine am_goto dX6_writeCatalogue_158 (by decide : ((158 : Nat) : Int) + (-65) = ((93 : Nat) : Int)) ?_
    refine am_lv [0, 1, 2] rfl ?_
    have eT : T ++ sB (w0.2.2.1 1) i = ((((((T ++ tS15) ++ [nI 32]) ++ nmB ((w0.2.2.1 1).2 3 i)) ++ [nI 32]) ++ numB a) ++ [nI 59]) := by unfold sB; rw [ea, nI_clamp (n := a) (by omega)]; simp only [List.append_assoc]
    rw [← eT] at t6
    exact ih (i + 1) _ _ _ _ (by omega) t6 (by rw [List.length_append]; omega) (fun h9 k9 u9 t9 => kk h9 k9 u9 (by rw [← List.append_assoc]; exact t9))
theorem dX6_writeCatalogue_163 : decode cX6_writeCatalogue 163 = .ok (.iload_n 2, 1) := by decide +kernel
theorem dX6_writeCatalogue_164 : decode cX6_writeCatalogue 164 = .ok (.aload_n 1, 1) := by decide +kernel
theorem dX6_writeCatalogue_165 : decode cX6_writeCatalogue 165 = .ok (.getfield 120, 3) := by decide +kernel
theorem dX6_writeCatalogue_168 : decode cX6_writeCatalogue 168 = .ok (.if_icmp .ge 84, 3) := by decide +kernel
theorem dX6_writeCatalogue_171 : decode cX6_writeCatalogue 171 = .ok (.aload_n 0, 1) := by decide +kernel
theorem dX6_writeCatalogue_172 : decode cX6_writeCatalogue 172 = .ok (.getfield 26, 3) := by decide +kernel
theorem dX6_writeCatalogue_175 : decode cX6_writeCatalogue 175 = .ok (.ldc_w 364, 3) := by decide +kernel
theorem dX6_writeCatalogue_178 : decode cX6_writeCatalogue 178 = .ok (.invokevirtual 294, 3) := by decide +kernel
theorem dX6_writeCatalogue_181 : decode cX6_writeCatalogue 181 = .ok (.bipush 32, 2) := by decide +kernel
theorem dX6_writeCatalogue_183 : decode cX6_writeCatalogue 183 = .ok (.invokevirtual 298, 3) := by decide +kernel
theorem dX6_writeCatalogue_186 : decode cX6_writeCatalogue 186 = .ok (.pop, 1) := by decide +kernel
theorem dX6_writeCatalogue_187 : decode cX6_writeCatalogue 187 = .ok (.aload_n 0, 1) := by decide +kernel
theorem dX6_writeCatalogue_188 : decode cX6_writeCatalogue 188 = .ok (.aload_n 1, 1) := by decide +kernel
theorem dX6_writeCatalogue_189 : decode cX6_writeCatalogue 189 = .ok (.getfield 117, 3) := by decide +kernel
theorem dX6_writeCatalogue_192 : decode cX6_writeCatalogue 192 = .ok (.iload_n 2, 1) := by decide +kernel
theorem dX6_writeCatalogue_193 : decode cX6_writeCatalogue 193 = .ok (.invokestatic 144, 3) := by decide +kernel
theorem dX6_writeCatalogue_196 : decode cX6_writeCatalogue 196 = .ok (.invokevirtual 316, 3) := by decide +kernel
theorem dX6_writeCatalogue_199 : decode cX6_writeCatalogue 199 = .ok (.aload_n 0, 1) := by decide +kernel
theorem dX6_writeCatalogue_200 : decode cX6_writeCatalogue 200 = .ok (.getfield 26, 3) := by decide +kernel
theorem dX6_writeCatalogue_203 : decode cX6_writeCatalogue 203 = .ok (.bipush 32, 2) := by decide +kernel
theorem dX6_writeCatalogue_205 : decode cX6_writeCatalogue 205 = .ok (.invokevirtual 298, 3) := by decide +kernel
theorem dX6_writeCatalogue_208 : decode cX6_writeCatalogue 208 = .ok (.aload_n 1, 1) := by decide +kernel
theorem dX6_writeCatalogue_209 : decode cX6_writeCatalogue 209 = .ok (.getfield 366, 3) := by decide +kernel
theorem dX6_writeCatalogue_212 : decode cX6_writeCatalogue 212 = .ok (.iload_n 2, 1) := by decide +kernel
theorem dX6_writeCatalogue_213 : decode cX6_writeCatalogue 213 = .ok (.invokestatic 144, 3) := by decide +kernel
theorem dX6_writeCatalogue_216 : decode cX6_writeCatalogue 216 = .ok (.invokevirtual 301, 3) := by decide +kernel
theorem dX6_writeCatalogue_219 : decode cX6_writeCatalogue 219 = .ok (.pop, 1) := by decide +kernel
theorem dX6_writeCatalogue_220 : decode cX6_writeCatalogue 220 = .ok (.aload_n 0, 1) := by decide +kernel
theorem dX6_writeCatalogue_221 : decode cX6_writeCatalogue 221 = .ok (.getfield 26, 3) := by decide +kernel
theorem dX6_writeCatalogue_224 : decode cX6_writeCatalogue 224 = .ok (.bipush 32, 2) := by decide +kernel
theorem dX6_writeCatalogue_226 : decode cX6_writeCatalogue 226 = .ok (.invokevirtual 298, 3) := by decide +kernel
theorem dX6_writeCatalogue_229 : decode cX6_writeCatalogue 229 = .ok (.aload_n 1, 1) := by decide +kernel
theorem dX6_writeCatalogue_230 : decode cX6_writeCatalogue 230 = .ok (.getfield 369, 3) := by decide +kernel
theorem dX6_writeCatalogue_233 : decode cX6_writeCatalogue 233 = .ok (.iload_n 2, 1) := by decide +kernel
theorem dX6_writeCatalogue_234 : decode cX6_writeCatalogue 234 = .ok (.invokestatic 144, 3) := by decide +kernel
theorem dX6_writeCatalogue_237 : decode cX6_writeCatalogue 237 = .ok (.invokevirtual 301, 3) := by decide +kernel
theorem dX6_writeCatalogue_240 : decode cX6_writeCatalogue 240 = .ok (.bipush 59, 2) := by decide +kernel
theorem dX6_writeCatalogue_242 : decode cX6_writeCatalogue 242 = .ok (.invokevirtual 298, 3) := by decide +kernel
theorem dX6_writeCatalogue_245 : decode cX6_writeCatalogue 245 = .ok (.pop, 1) := by decide +kernel
theorem dX6_writeCatalogue_246 : decode cX6_writeCatalogue 246 = .ok (.iinc 2 1, 3) := by decide +kernel
theorem dX6_writeCatalogue_249 : decode cX6_writeCatalogue 249 = .ok (.goto (-86), 3) := by decide +kernel
set_option maxRecDepth 20000 in
theorem wc_loop3 {l : Launch} {G : GM} {K : Nat → Option va_E} {w0 : Wd} {X N : Nat} {Q : Option Value → List va_E → Prop} (hX2 : X ≤ 2000) {nz : Nat} (hc : (w0.2.2.1 1).1 2 = nI nz) (hn : nz ≤ 6) (hz : ∀ i, i < nz → ∃ a b : Nat, a < 10000 ∧ b < 10000 ∧ (w0.2.2.1 1).2 6 i = nI a ∧ (w0.2.2.1 1).2 7 i = nI b) : ∀ (r i : Nat) (T : List Int32) (h : List va_E) (k u : Nat), i + r = nz → TS G K w0 T h X N k u → T.length + ((List.range' i r).flatMap (zB (w0.2.2.1 1))).length ≤ X → (∀ (h1 : List va_E) (k1 u1 : Nat), TS G K w0 (T ++ (List.range' i r).flatMap (zB (w0.2.2.1 1))) h1 X N k1 u1 → Tr l G mX6_writeCatalogue 8 k1 u1 252 [(0, .ref (gz G + 0)), (1, .ref (gz G + (21 + 1)))] [] h1 Q) → Tr l G mX6_writeCatalogue 8 k u 163 [(2, .int (nI i)), (0, .ref (gz G + 0)), (1, .ref (gz G + (21 + 1)))] [] h Q := by
  intro r
  induction r with
  | zero =>
    intro i T h k u hi t hX kk
    refine am_iload_n dX6_writeCatalogue_163 0 rfl ?_
    refine am_aload_n dX6_writeCatalogue_164 2 rfl ?_
    refine am_get dX6_writeCatalogue_165 kGX6_120 (pl_1 (ts_P1 t)) rfl ?_
    refine am_icmp_ge dX6_writeCatalogue_168 (by decide : ((168 : Nat) : Int) + (84) = ((252 : Nat) : Int)) (fun _ => ?_) (fun zq => absurd (show (w0.2.2.1 1).1 2 ≤ nI i by rw [hc, nI_leI (by omega) (by omega)]; omega) zq)
    refine am_lv [1, 2] rfl ?_
    rw [show (List.range' i 0).flatMap (zB (w0.2.2.1 1)) = [] from rfl, List.append_nil] at kk
    exact kk _ _ _ t
  | succ r ih =>
    intro i T h k u hi t hX kk
    rw [List.range'_succ, List.flatMap_cons] at hX kk
    obtain ⟨a, b, la, lb, ea, eb⟩ := hz i (by omega)
    have hy : (zB (w0.2.2.1 1) i).length = 4 + 1 + (nmB ((w0.2.2.1 1).2 5 i)).length + 1 + sbW a + 1 + sbW b + 1 := by unfold zB; rw [ea, eb, nI_clamp (n := a) (by omega), nI_clamp (n := b) (by omega)]; simp only [List.length_append, List.length_cons, List.length_nil, numB_len, tS11_len, tS12_len, tS13_len, tS14_len, tS15_len, tS16_len, tS17_len, tS18_len, tS19_len, tS20_len]
    rw [List.length_append] at hX
    refine am_iload_n dX6_writeCatalogue_163 0 rfl ?_
    refine am_aload_n dX6_writeCatalogue_164 2 rfl ?_
    refine am_get dX6_writeCatalogue_165 kGX6_120 (pl_1 (ts_P1 t)) rfl ?_
    refine am_icmp_ge dX6_writeCatalogue_168 (by decide : ((168 : Nat) : Int) + (84) = ((252 : Nat) : Int)) (fun zq => absurd zq (show ¬ (w0.2.2.1 1).1 2 ≤ nI i by rw [hc, nI_leI (by omega) (by omega)]; omega)) (fun _ => ?_)
    refine am_aload_n dX6_writeCatalogue_171 1 rfl ?_
    refine am_get dX6_writeCatalogue_172 kGX6_26 (ts_c0 t) rfl ?_
    refine am_ldcwS (j := 16) dX6_writeCatalogue_175 rfl ?_
    refine am_tsS (j := 16) (qs := sq16) t rfl (by simp only [List.length_append, List.length_cons, List.length_nil, numB_len, tS11_len, tS12_len, tS13_len, tS14_len, tS15_len, tS16_len, tS17_len, tS18_len, tS19_len, tS20_len]; omega) hX2 dX6_writeCatalogue_178 kMX6_294 (Nat.le_of_ble_eq_true rfl) (by decide) (fun h1 k1 u1 t1 => ?_)
    have t1 : TS G K w0 (T ++ tS16) _ X N _ _ := t1
    refine am_bipush (v := 32) dX6_writeCatalogue_181 (by decide) ?_
    refine am_tsC (b := 32) t1 rfl (by decide) (by simp only [List.length_append, List.length_cons, List.length_nil, numB_len, tS11_len, tS12_len, tS13_len, tS14_len, tS15_len, tS16_len, tS17_len, tS18_len, tS19_len, tS20_len]; omega) hX2 dX6_writeCatalogue_183 kMX6_298 (Nat.le_of_ble_eq_true rfl) (by decide) (fun h2 k2 u2 t2 => ?_)
    have t2 : TS G K w0 ((T ++ tS16) ++ [nI 32]) _ X N _ _ := t2
    refine am_pop dX6_writeCatalogue_186 rfl ?_
    refine am_aload_n dX6_writeCatalogue_187 1 rfl ?_
    refine am_aload_n dX6_writeCatalogue_188 2 rfl ?_
    refine am_get dX6_writeCatalogue_189 kGX6_117 (pl_1 (ts_P1 t2)) rfl ?_
    refine am_iload_n dX6_writeCatalogue_192 0 rfl ?_
    refine am_callS (As := [.ref (gz G + (21 + 7)), .int (nI i)]) (rest := [.ref (gz G + 0)]) dX6_writeCatalogue_193 kMX6_144 rfl rfl (Nat.le_of_ble_eq_true rfl) (d2 := 0) (by decide) (k2 := 0) (Nat.zero_le _) (u2 := 0) (Nat.zero_le _) (Nat.le_of_ble_eq_true rfl) (ctX6_at (pl_r5 (ts_P1 t2)) (by decide) (nI i)) (fun v hh q => ?_)
    obtain ⟨rfl, rfl⟩ := q
    rw [hz_at ((w0.2.2.1 1).2 5) (show i < 6 by omega) (by decide)]
    refine am_tsV (L := nmB ((w0.2.2.1 1).2 5 i)) (i := 0) (As := [.int ((w0.2.2.1 1).2 5 i)]) (rest := []) (d2 := 7) t2 (by simp only [List.length_append, List.length_cons, List.length_nil, numB_len, tS11_len, tS12_len, tS13_len, tS14_len, tS15_len, tS16_len, tS17_len, tS18_len, tS19_len, tS20_len]; omega) dX6_writeCatalogue_196 kMX6_316 rfl (ts_c0 t2) rfl rfl (Nat.le_of_ble_eq_true rfl) (by decide) (Nat.le_of_ble_eq_true rfl) (fun m tm => ctX6_writeName tm (by simp only [List.length_append, List.length_cons, List.length_nil, numB_len, tS11_len, tS12_len, tS13_len, tS14_len, tS15_len, tS16_len, tS17_len, tS18_len, tS19_len, tS20_len]; omega)) (fun h3 k3 u3 t3 => ?_)
    have t3 : TS G K w0 (((T ++ tS16) ++ [nI 32]) ++ nmB ((w0.2.2.1 1).2 5 i)) _ X N _ _ := t3
    refine am_aload_n dX6_writeCatalogue_199 1 rfl ?_
    refine am_get dX6_writeCatalogue_200 kGX6_26 (ts_c0 t3) rfl ?_
    refine am_bipush (v := 32) dX6_writeCatalogue_203 (by decide) ?_
    refine am_tsC (b := 32) t3 rfl (by decide) (by simp only [List.length_append, List.length_cons, List.length_nil, numB_len, tS11_len, tS12_len, tS13_len, tS14_len, tS15_len, tS16_len, tS17_len, tS18_len, tS19_len, tS20_len]; omega) hX2 dX6_writeCatalogue_205 kMX6_298 (Nat.le_of_ble_eq_true rfl) (by decide) (fun h4 k4 u4 t4 => ?_)
    have t4 : TS G K w0 ((((T ++ tS16) ++ [nI 32]) ++ nmB ((w0.2.2.1 1).2 5 i)) ++ [nI 32]) _ X N _ _ := t4
    refine am_aload_n dX6_writeCatalogue_208 2 rfl ?_
    refine am_get dX6_writeCatalogue_209 kGX6_366 (pl_1 (ts_P1 t4)) rfl ?_
    refine am_iload_n dX6_writeCatalogue_212 0 rfl ?_
    refine am_callS (As := [.ref (gz G + (21 + 8)), .int (nI i)]) (rest := [.ref (gz G + 19)]) dX6_writeCatalogue_213 kMX6_144 rfl rfl (Nat.le_of_ble_eq_true rfl) (d2 := 0) (by decide) (k2 := 0) (Nat.zero_le _) (u2 := 0) (Nat.zero_le _) (Nat.le_of_ble_eq_true rfl) (ctX6_at (pl_r6 (ts_P1 t4)) (by decide) (nI i)) (fun v hh q => ?_)
    obtain ⟨rfl, rfl⟩ := q
    rw [hz_at ((w0.2.2.1 1).2 6) (show i < 6 by omega) (by decide), ea]
    refine am_tsI (z := a) t4 (la) (by simp only [List.length_append, List.length_cons, List.length_nil, numB_len, tS11_len, tS12_len, tS13_len, tS14_len, tS15_len, tS16_len, tS17_len, tS18_len, tS19_len, tS20_len]; omega) hX2 dX6_writeCatalogue_216 kMX6_301 (Nat.le_of_ble_eq_true rfl) (by decide) (fun h5 k5 u5 t5 => ?_)
    have t5 : TS G K w0 (((((T ++ tS16) ++ [nI 32]) ++ nmB ((w0.2.2.1 1).2 5 i)) ++ [nI 32]) ++ numB a) _ X N _ _ := t5
    refine am_pop dX6_writeCatalogue_219 rfl ?_
    refine am_aload_n dX6_writeCatalogue_220 1 rfl ?_
    refine am_get dX6_writeCatalogue_221 kGX6_26 (ts_c0 t5) rfl ?_
    refine am_bipush (v := 32) dX6_writeCatalogue_224 (by decide) ?_
    refine am_tsC (b := 32) t5 rfl (by decide) (by simp only [List.length_append, List.length_cons, List.length_nil, numB_len, tS11_len, tS12_len, tS13_len, tS14_len, tS15_len, tS16_len, tS17_len, tS18_len, tS19_len, tS20_len]; omega) hX2 dX6_writeCatalogue_226 kMX6_298 (Nat.le_of_ble_eq_true rfl) (by decide) (fun h6 k6 u6 t6 => ?_)
    have t6 : TS G K w0 ((((((T ++ tS16) ++ [nI 32]) ++ nmB ((w0.2.2.1 1).2 5 i)) ++ [nI 32]) ++ numB a) ++ [nI 32]) _ X N _ _ := t6
    refine am_aload_n dX6_writeCatalogue_229 2 rfl ?_
    refine am_get dX6_writeCatalogue_230 kGX6_369 (pl_1 (ts_P1 t6)) rfl ?_
    refine am_iload_n dX6_writeCatalogue_233 0 rfl ?_
    refine am_callS (As := [.ref (gz G + (21 + 9)), .int (nI i)]) (rest := [.ref (gz G + 19)]) dX6_writeCatalogue_234 kMX6_144 rfl rfl (Nat.le_of_ble_eq_true rfl) (d2 := 0) (by decide) (k2 := 0) (Nat.zero_le _) (u2 := 0) (Nat.zero_le _) (Nat.le_of_ble_eq_true rfl) (ctX6_at (pl_r7 (ts_P1 t6)) (by decide) (nI i)) (fun v hh q => ?_)
    obtain ⟨rfl, rfl⟩ := q
    rw [hz_at ((w0.2.2.1 1).2 7) (show i < 6 by omega) (by decide), eb]
    refine am_tsI (z := b) t6 (lb) (by simp only [List.length_append, List.length_cons, List.length_nil, numB_len, tS11_len, tS12_len, tS13_len, tS14_len, tS15_len, tS16_len, tS17_len, tS18_len, tS19_len, tS20_len]; omega) hX2 dX6_writeCatalogue_237 kMX6_301 (Nat.le_of_ble_eq_true rfl) (by decide) (fun h7 k7 u7 t7 => ?_)
    have t7 : TS G K w0 (((((((T ++ tS16) ++ [nI 32]) ++ nmB ((w0.2.2.1 1).2 5 i)) ++ [nI 32]) ++ numB a) ++ [nI 32]) ++ numB b) _ X N _ _ := t7
    refine am_bipush (v := 59) dX6_writeCatalogue_240 (by decide) ?_
    refine am_tsC (b := 59) t7 rfl (by decide) (by simp only [List.length_append, List.length_cons, List.length_nil, numB_len, tS11_len, tS12_len, tS13_len, tS14_len, tS15_len, tS16_len, tS17_len, tS18_len, tS19_len, tS20_len]; omega) hX2 dX6_writeCatalogue_242 kMX6_298 (Nat.le_of_ble_eq_true rfl) (by decide) (fun h8 k8 u8 t8 => ?_)
    have t8 : TS G K w0 ((((((((T ++ tS16) ++ [nI 32]) ++ nmB ((w0.2.2.1 1).2 5 i)) ++ [nI 32]) ++ numB a) ++ [nI 32]) ++ numB b) ++ [nI 59]) _ X N _ _ := t8
    refine am_pop dX6_writeCatalogue_245 rfl ?_
    refine am_iinc (v := (nI (i + 1))) dX6_writeCatalogue_246 0 rfl (nI_succ i).symm (by decide) (lv' := [(2, .int (nI (i + 1))), (0, .ref (gz G + 0)), (1, .ref (gz G + (21 + 1)))]) rfl ?_
    refine am_goto dX6_writeCatalogue_249 (by decide : ((249 : Nat) : Int) + (-86) = ((163 : Nat) : Int)) ?_
    refine am_lv [0, 1, 2] rfl ?_
    have eT : T ++ zB (w0.2.2.1 1) i = ((((((((T ++ tS16) ++ [nI 32]) ++ nmB ((w0.2.2.1 1).2 5 i)) ++ [nI 32]) ++ numB a) ++ [nI 32]) ++ numB b) ++ [nI 59]) := by unfold zB; rw [ea, eb, nI_clamp (n := a) (by omega), nI_clamp (n := b) (by omega)]; simp only [List.append_assoc]
    rw [← eT] at t8
    exact ih (i + 1) _ _ _ _ (by omega) t8 (by rw [List.length_append]; omega) (fun h9 k9 u9 t9 => kk h9 k9 u9 (by rw [← List.append_assoc]; exact t9))
theorem dX6_writeCatalogue_0 : decode cX6_writeCatalogue 0 = .ok (.iconst 0, 1) := by decide +kernel
theorem dX6_writeCatalogue_1 : decode cX6_writeCatalogue 1 = .ok (.istore_n 2, 1) := by decide +kernel
theorem dX6_writeCatalogue_91 : decode cX6_writeCatalogue 91 = .ok (.iconst 0, 1) := by decide +kernel
theorem dX6_writeCatalogue_92 : decode cX6_writeCatalogue 92 = .ok (.istore_n 2, 1) := by decide +kernel
theorem dX6_writeCatalogue_161 : decode cX6_writeCatalogue 161 = .ok (.iconst 0, 1) := by decide +kernel
theorem dX6_writeCatalogue_162 : decode cX6_writeCatalogue 162 = .ok (.istore_n 2, 1) := by decide +kernel
theorem dX6_writeCatalogue_252 : decode cX6_writeCatalogue 252 = .ok (.return_, 1) := by decide +kernel
set_option maxRecDepth 20000 in
theorem ctX6_writeCatalogue {l : Launch} {G : GM} {K : Nat → Option va_E} {w0 : Wd} {T : List Int32} {h : List va_E} {m ny ns nz : Nat} (t : TB G K w0 T h m) (hX : T.length + (ctB (w0.2.2.1 1) ny ns nz).length ≤ 2000) (hc0 : (w0.2.2.1 1).1 0 = nI ny) (hn0 : ny ≤ 6) (hz0 : ∀ i, i < ny → ∃ a b : Nat, a < 10000 ∧ b < 10000 ∧ (w0.2.2.1 1).2 1 i = nI a ∧ (w0.2.2.1 1).2 2 i = nI b) (hc1 : (w0.2.2.1 1).1 1 = nI ns) (hn1 : ns ≤ 8) (hz1 : ∀ i, i < ns → ∃ a : Nat, a < 10000 ∧ (w0.2.2.1 1).2 4 i = nI a) (hc2 : (w0.2.2.1 1).1 2 = nI nz) (hn2 : nz ≤ 6) (hz2 : ∀ i, i < nz → ∃ a b : Nat, a < 10000 ∧ b < 10000 ∧ (w0.2.2.1 1).2 6 i = nI a ∧ (w0.2.2.1 1).2 7 i = nI b) : Ct l G mX6_writeCatalogue 8 (cK (T.length + (ctB (w0.2.2.1 1) ny ns nz).length) m) (cU (T.length + (ctB (w0.2.2.1 1) ny ns nz).length) m) [.ref (gz G + 0), .ref (gz G + (21 + 1))] h (fun r h1 => r = none ∧ TB G K w0 (T ++ ctB (w0.2.2.1 1) ny ns nz) h1 (cN (T.length + (ctB (w0.2.2.1 1) ny ns nz).length) m)) := by
  have t0 := ts_start t (T.length + (ctB (w0.2.2.1 1) ny ns nz).length)
  have hl : (ctB (w0.2.2.1 1) ny ns nz).length = ((List.range' 0 ny).flatMap (yB (w0.2.2.1 1))).length + ((List.range' 0 ns).flatMap (sB (w0.2.2.1 1))).length + ((List.range' 0 nz).flatMap (zB (w0.2.2.1 1))).length := by unfold ctB; simp only [List.length_append]
  show Tr l G mX6_writeCatalogue 8 _ _ 0 [(0, .ref (gz G + 0)), (1, .ref (gz G + (21 + 1)))] [] h _
  generalize hXX : T.length + (ctB (w0.2.2.1 1) ny ns nz).length = X at *
  generalize cN X m = N at *
  generalize cK X m = kk at *
  generalize cU X m = uu at *
  refine am_iconst (v := 0) dX6_writeCatalogue_0 (by decide) ?_
  refine am_istore_n dX6_writeCatalogue_1 (by decide) (lv' := [(2, .int 0), (0, .ref (gz G + 0)), (1, .ref (gz G + (21 + 1)))]) rfl ?_
  rw [← nI_0]
  refine wc_loop1 hX hc0 hn0 hz0 ny 0 T h _ _ (by omega) t0 (by omega) (fun h1 k1 u1 t1 => ?_)
  refine am_iconst (v := 0) dX6_writeCatalogue_91 (by decide) ?_
  refine am_istore_n dX6_writeCatalogue_92 (by decide) (lv' := [(2, .int 0), (0, .ref (gz G + 0)), (1, .ref (gz G + (21 + 1)))]) rfl ?_
  rw [← nI_0]
  refine wc_loop2 hX hc1 hn1 hz1 ns 0 _ h1 _ _ (by omega) t1 (by rw [List.length_append]; omega) (fun h2 k2 u2 t2 => ?_)
  refine am_iconst (v := 0) dX6_writeCatalogue_161 (by decide) ?_
  refine am_istore_n dX6_writeCatalogue_162 (by decide) (lv' := [(2, .int 0), (0, .ref (gz G + 0)), (1, .ref (gz G + (21 + 1)))]) rfl ?_
  rw [← nI_0]
  refine wc_loop3 hX hc2 hn2 hz2 nz 0 _ h2 _ _ (by omega) t2 (by rw [List.length_append, List.length_append]; omega) (fun h3 k3 u3 t3 => ?_)
  have t4 : TS G K w0 (T ++ ctB (w0.2.2.1 1) ny ns nz) h3 X N k3 u3 := by unfold ctB; simp only [List.append_assoc] at t3 ⊢; exact t3
  exact am_return dX6_writeCatalogue_252 rfl ⟨rfl, ts_end t4 (by rw [List.length_append]; omega)⟩
