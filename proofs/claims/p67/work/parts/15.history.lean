/-! The class's history of plants. -/
section NUL
variable {l : Launch} {G : GM} {M : MD} {d k u pc : Nat} {lv lv' : List (Nat × Value)} {rest : List Value} {h : List va_E} {Q : Option Value → List va_E → Prop}
theorem am_null (hd : decode M.2.1 pc = .ok (.aconst_null, 1)) (k1 : Tr l G M d k u (pc + 1) lv (.null :: rest) h Q) : Tr l G M d k u pc lv rest h Q := by
  intro p e R s m args below meth c H locs cells slots mc ms ls F
  exact lv_null F.1.1 F.1.2.1 hd (k1 p e R s m args below meth c H locs cells slots mc ms ls F)
theorem am_ifnullN {off : Int} {tgt : Nat} (hd : decode M.2.1 pc = .ok (.ifnull off, 3)) (ht : (pc : Int) + off = (tgt : Int)) (k1 : Tr l G M d k u tgt lv rest h Q) : Tr l G M d k u pc lv (.null :: rest) h Q := by
  intro p e R s m args below meth c H locs cells slots mc ms ls F
  exact lv_ifnullN F.1.1 F.1.2.1 hd ht (k1 p e R s m args below meth c H locs cells slots mc ms ls F)
theorem am_astore_nN {q : Fin 4} (hd : decode M.2.1 pc = .ok (.astore_n q, 1)) (hn : (q : Nat) < M.2.2.1) (hl : ((q : Nat), Value.null) :: lv.filter (fun y => !(y.1 == (q : Nat)) && !(y.1 + 1 == (q : Nat) && y.2.category == 2)) = lv') (k1 : Tr l G M d k u (pc + 1) lv' rest h Q) : Tr l G M d k u pc lv (.null :: rest) h Q := by
  intro p e R s m args below meth c H locs cells slots mc ms ls F
  exact lv_astore_nN F.1.1 F.1.2.1 hd rfl F.2.2.2.1 hn hl (fun ls1 hl1 => k1 p e R s m args below meth c H locs cells slots mc ms ls1 ⟨F.1, F.2.1, F.2.2.1, hl1, F.2.2.2.2⟩)
theorem am_aload_nN {q : Fin 4} (hd : decode M.2.1 pc = .ok (.aload_n q, 1)) (j : Nat) (hj : lv[j]? = some ((q : Nat), .null)) (k1 : Tr l G M d k u (pc + 1) lv (.null :: rest) h Q) : Tr l G M d k u pc lv (rest) h Q := by
  intro p e R s m args below meth c H locs cells slots mc ms ls F
  exact lv_aload_nN F.1.1 F.1.2.1 hd rfl (lv_at F.2.2.2.1 j hj) (k1 p e R s m args below meth c H locs cells slots mc ms ls F)
theorem am_areturnN {rt : FieldType} (hd : decode M.2.1 pc = .ok (.areturn, 1)) (hr : M.2.2.2 = some rt) (hrt : (∃ n, rt = .object n) ∨ ∃ t, rt = .array t) (hq : Q (some .null) h) : Tr l G M d k u pc lv [.null] h Q := by
  intro p e R s m args below meth c H locs cells slots mc ms ls F
  obtain ⟨⟨hx, hb, hml, hown, hts⟩, ⟨hret, hlk, hnm⟩, ⟨hd1, hd2, hc, hs, hk, hu⟩, hl, hR, hK, hS, hC⟩ := F
  refine W.widen (k := mc) (n := ms) (by omega) (by omega) ?_
  exact W.aret hx hb (hret.trans hr) hrt (Or.inl rfl) (fun t ht hW => ⟨⟨some .null, h, rfl, hq, by rw [ht]; exact hR⟩, hS.F ht⟩) hS.2.2 hd hlk
end NUL
theorem nz_gt {y : Int32} (c : 0 < y) : ¬ y = 0 := fun e => by rw [e] at c; exact absurd c (by decide)
def plV (G : GM) (x : Int32) : Value := if ¬ x < 0 ∧ ¬ 10 ≤ x then .ref (gz G + (55 + 16 * x.toNatClampNeg)) else .null
theorem kk_lt {x : Int32} (c : ¬ x < 0 ∧ ¬ 10 ≤ x) : x.toNatClampNeg < 10 := by
  rcases pk_ix x (n := 10) (by omega) with h | h | ⟨j, hj, rfl⟩
  · exact absurd h c.1
  · exact absurd h c.2
  · rw [nI_clamp (by omega)]; exact hj
theorem kpf_ok {z : Nat} {x : Int32} (h1 : ¬ x < 0) (h2 : ¬ 10 ≤ x) : va_rf (kpf z x.toNatClampNeg) = .ref (z + (55 + 16 * x.toNatClampNeg)) := by
  unfold kpf
  rw [if_pos (kk_lt ⟨h1, h2⟩)]
  rfl
theorem plV_pos {G : GM} {x : Int32} (c : ¬ x < 0 ∧ ¬ 10 ≤ x) : plV G x = .ref (gz G + (55 + 16 * x.toNatClampNeg)) := if_pos c
theorem plV_neg {G : GM} {x : Int32} (c : ¬ (¬ x < 0 ∧ ¬ 10 ≤ x)) : plV G x = .null := if_neg c
theorem plV_ok {G : GM} {x : Int32} (h1 : ¬ x < 0) (h2 : ¬ 10 ≤ x) : plV G x = .ref (gz G + (55 + 16 * x.toNatClampNeg)) := if_pos ⟨h1, h2⟩
theorem plV_lo {G : GM} {x : Int32} (h1 : x < 0) : plV G x = .null := if_neg (fun z => z.1 h1)
theorem plV_hi {G : GM} {x : Int32} (h1 : 10 ≤ x) : plV G x = .null := if_neg (fun z => z.2 h1)
theorem pb_k {k : Nat} : pb (3 + k) = 55 + 16 * k := by unfold pb; omega
theorem hwPk {G : GM} {K : Nat → Option va_E} {h : List va_E} {w : Wd} (hw : HW G K h w) {k : Nat} (hk : k < 10) : PlantAt G h (55 + 16 * k) (w.2.2.1 (3 + k)) := by
  have := hw.1 (3 + k) (by omega)
  rw [pb_k] at this
  exact this
theorem hwPuk {G : GM} {K : Nat → Option va_E} {h : List va_E} {w : Wd} (hw : HW G K h w) {k : Nat} (hk : k < 10) {h1 : List va_E} {p : Pl} (hp1 : PlantAt G h1 (55 + 16 * k) p) (hF : Fr (fun a => 55 + 16 * k ≤ a ∧ a < 55 + 16 * k + 16) h h1) : HW G K h1 (wP w (3 + k) p) :=
  hwPu hw (i := 3 + k) (by omega) (by rw [pb_k]; exact hp1) hF (fun a z => by rw [pb_k]; exact z)
theorem dX1_placeOf_0 : decode cX1_placeOf 0 = .ok (.aload_n 0, 1) := by decide +kernel
theorem dX1_placeOf_1 : decode cX1_placeOf 1 = .ok (.getfield 30, 3) := by decide +kernel
theorem dX1_placeOf_4 : decode cX1_placeOf 4 = .ok (.iload_n 1, 1) := by decide +kernel
theorem dX1_placeOf_5 : decode cX1_placeOf 5 = .ok (.iadd, 1) := by decide +kernel
theorem dX1_placeOf_6 : decode cX1_placeOf 6 = .ok (.bipush 10, 2) := by decide +kernel
theorem dX1_placeOf_8 : decode cX1_placeOf 8 = .ok (.irem, 1) := by decide +kernel
theorem dX1_placeOf_9 : decode cX1_placeOf 9 = .ok (.istore_n 2, 1) := by decide +kernel
theorem dX1_placeOf_10 : decode cX1_placeOf 10 = .ok (.iload_n 2, 1) := by decide +kernel
theorem dX1_placeOf_11 : decode cX1_placeOf 11 = .ok (.ifCond .lt 21, 3) := by decide +kernel
theorem dX1_placeOf_14 : decode cX1_placeOf 14 = .ok (.iload_n 2, 1) := by decide +kernel
theorem dX1_placeOf_15 : decode cX1_placeOf 15 = .ok (.aload_n 0, 1) := by decide +kernel
theorem dX1_placeOf_16 : decode cX1_placeOf 16 = .ok (.getfield 11, 3) := by decide +kernel
theorem dX1_placeOf_19 : decode cX1_placeOf 19 = .ok (.arraylength, 1) := by decide +kernel
theorem dX1_placeOf_20 : decode cX1_placeOf 20 = .ok (.if_icmp .ge 12, 3) := by decide +kernel
theorem dX1_placeOf_23 : decode cX1_placeOf 23 = .ok (.aload_n 0, 1) := by decide +kernel
theorem dX1_placeOf_24 : decode cX1_placeOf 24 = .ok (.getfield 11, 3) := by decide +kernel
theorem dX1_placeOf_27 : decode cX1_placeOf 27 = .ok (.iload_n 2, 1) := by decide +kernel
theorem dX1_placeOf_28 : decode cX1_placeOf 28 = .ok (.aaload, 1) := by decide +kernel
theorem dX1_placeOf_29 : decode cX1_placeOf 29 = .ok (.goto 4, 3) := by decide +kernel
theorem dX1_placeOf_32 : decode cX1_placeOf 32 = .ok (.aconst_null, 1) := by decide +kernel
theorem dX1_placeOf_33 : decode cX1_placeOf 33 = .ok (.areturn, 1) := by decide +kernel
def fX1_placeOf (w : Wd) (z1 : Int32) : Int32 := ((w.1 12) + z1) - ((w.1 12) + z1) / 10 * 10
set_option maxRecDepth 20000 in
theorem ctX1_placeOf {l : Launch} {G : GM} {K : Nat → Option va_E} {h : List va_E} {w : Wd} (hw : HW G K h w) (z1 : Int32) : Ct l G mX1_placeOf 0 0 0 [.ref (gz G + 53), .int z1] h (fun v h1 => v = some (plV G (fX1_placeOf w z1)) ∧ h1 = h) := by
  show Tr l G mX1_placeOf 0 0 0 0 [(0, .ref (gz G + 53)), (1, .int z1)] [] h _
  refine am_aload_n dX1_placeOf_0 0 rfl ?_
  refine am_get (v := .int (w.1 12)) dX1_placeOf_1 kGX1_30 (hwc53 (w := w) hw) rfl ?_
  refine am_iload_n dX1_placeOf_4 1 rfl ?_
  refine am_iadd dX1_placeOf_5 ?_
  refine am_bipush (v := 10) dX1_placeOf_6 (by decide) ?_
  refine am_irem dX1_placeOf_8 (by decide) ?_
  refine am_istore_n dX1_placeOf_9 (by decide) (lv' := [(2, .int (((w.1 12) + z1) - ((w.1 12) + z1) / 10 * 10)), (0, .ref (gz G + 53)), (1, .int z1)]) rfl ?_
  refine am_iload_n dX1_placeOf_10 0 rfl ?_
  refine am_if_lt dX1_placeOf_11 (by decide : ((11 : Nat) : Int) + (21) = ((32 : Nat) : Int)) (fun c1 => ?_) (fun c1 => ?_)
  · refine am_null dX1_placeOf_32 ?_
    exact am_areturnN dX1_placeOf_33 rfl (Or.inl ⟨_, rfl⟩) ⟨congrArg some (Eq.symm (plV_lo c1)), rfl⟩
  · refine am_iload_n dX1_placeOf_14 0 rfl ?_
    refine am_aload_n dX1_placeOf_15 1 rfl ?_
    refine am_get (v := .ref (gz G + 54)) dX1_placeOf_16 kGX1_11 (hwc53 (w := w) hw) rfl ?_
    refine am_alen (v := 10) dX1_placeOf_19 (hwc54 (w := w) hw) rfl (by rfl) ?_
    refine am_icmp_ge dX1_placeOf_20 (by decide : ((20 : Nat) : Int) + (12) = ((32 : Nat) : Int)) (fun c2 => ?_) (fun c2 => ?_)
    · refine am_null dX1_placeOf_32 ?_
      exact am_areturnN dX1_placeOf_33 rfl (Or.inl ⟨_, rfl⟩) ⟨congrArg some (Eq.symm (plV_hi c2)), rfl⟩
    · refine am_aload_n dX1_placeOf_23 1 rfl ?_
      refine am_get (v := .ref (gz G + 54)) dX1_placeOf_24 kGX1_11 (hwc53 (w := w) hw) rfl ?_
      refine am_iload_n dX1_placeOf_27 0 rfl ?_
      refine am_aald (f := (kpf (gz G))) dX1_placeOf_28 (hwc54 (w := w) hw) (vp_in2 c1 c2 (by decide)) ?_
      rw [kpf_ok c1 c2]
      refine am_goto dX1_placeOf_29 (by decide : ((29 : Nat) : Int) + (4) = ((33 : Nat) : Int)) ?_
      exact am_areturn dX1_placeOf_33 rfl (Or.inl ⟨_, rfl⟩) ⟨congrArg some (Eq.symm (plV_ok c1 c2)), rfl⟩

theorem dX1_keep_0 : decode cX1_keep 0 = .ok (.aload_n 0, 1) := by decide +kernel
theorem dX1_keep_1 : decode cX1_keep 1 = .ok (.aload_n 0, 1) := by decide +kernel
theorem dX1_keep_2 : decode cX1_keep 2 = .ok (.getfield 18, 3) := by decide +kernel
theorem dX1_keep_5 : decode cX1_keep 5 = .ok (.invokevirtual 22, 3) := by decide +kernel
theorem dX1_keep_8 : decode cX1_keep 8 = .ok (.astore_n 2, 1) := by decide +kernel
theorem dX1_keep_9 : decode cX1_keep 9 = .ok (.aload_n 2, 1) := by decide +kernel
theorem dX1_keep_10 : decode cX1_keep 10 = .ok (.ifnull 8, 3) := by decide +kernel
theorem dX1_keep_13 : decode cX1_keep 13 = .ok (.aload_n 2, 1) := by decide +kernel
theorem dX1_keep_14 : decode cX1_keep 14 = .ok (.aload_n 1, 1) := by decide +kernel
theorem dX1_keep_15 : decode cX1_keep 15 = .ok (.invokevirtual 26, 3) := by decide +kernel
theorem dX1_keep_18 : decode cX1_keep 18 = .ok (.aload_n 0, 1) := by decide +kernel
theorem dX1_keep_19 : decode cX1_keep 19 = .ok (.getfield 18, 3) := by decide +kernel
theorem dX1_keep_22 : decode cX1_keep 22 = .ok (.bipush 10, 2) := by decide +kernel
theorem dX1_keep_24 : decode cX1_keep 24 = .ok (.if_icmp .ge 16, 3) := by decide +kernel
theorem dX1_keep_27 : decode cX1_keep 27 = .ok (.aload_n 0, 1) := by decide +kernel
theorem dX1_keep_28 : decode cX1_keep 28 = .ok (.dup, 1) := by decide +kernel
theorem dX1_keep_29 : decode cX1_keep 29 = .ok (.getfield 18, 3) := by decide +kernel
theorem dX1_keep_32 : decode cX1_keep 32 = .ok (.iconst 1, 1) := by decide +kernel
theorem dX1_keep_33 : decode cX1_keep 33 = .ok (.iadd, 1) := by decide +kernel
theorem dX1_keep_34 : decode cX1_keep 34 = .ok (.putfield 18, 3) := by decide +kernel
theorem dX1_keep_37 : decode cX1_keep 37 = .ok (.goto 16, 3) := by decide +kernel
theorem dX1_keep_40 : decode cX1_keep 40 = .ok (.aload_n 0, 1) := by decide +kernel
theorem dX1_keep_41 : decode cX1_keep 41 = .ok (.aload_n 0, 1) := by decide +kernel
theorem dX1_keep_42 : decode cX1_keep 42 = .ok (.getfield 30, 3) := by decide +kernel
theorem dX1_keep_45 : decode cX1_keep 45 = .ok (.iconst 1, 1) := by decide +kernel
theorem dX1_keep_46 : decode cX1_keep 46 = .ok (.iadd, 1) := by decide +kernel
theorem dX1_keep_47 : decode cX1_keep 47 = .ok (.bipush 10, 2) := by decide +kernel
theorem dX1_keep_49 : decode cX1_keep 49 = .ok (.irem, 1) := by decide +kernel
theorem dX1_keep_50 : decode cX1_keep 50 = .ok (.putfield 30, 3) := by decide +kernel
theorem dX1_keep_53 : decode cX1_keep 53 = .ok (.return_, 1) := by decide +kernel
def fX1_keep_21 (w : Wd)  : Wd := (if ¬ (fX1_placeOf w (w.1 11)) < 0 ∧ ¬ 10 ≤ (fX1_placeOf w (w.1 11)) then (bnd (fX5_copyFrom (w.2.2.1 (3 + (fX1_placeOf w (w.1 11)).toNatClampNeg)) (w.2.2.1 1) ) (fun r8 => (bnd (wP w (3 + (fX1_placeOf w (w.1 11)).toNatClampNeg) r8) (fun r13 => (if 10 ≤ (r13.1 11) then (wS r13 12 (((r13.1 12) + 1) - ((r13.1 12) + 1) / 10 * 10)) else (wS r13 11 ((r13.1 11) + 1))))))) else (if 10 ≤ (w.1 11) then (wS w 12 (((w.1 12) + 1) - ((w.1 12) + 1) / 10 * 10)) else (wS w 11 ((w.1 11) + 1))))
set_option maxRecDepth 20000 in
theorem ctX1_keep_21 {l : Launch} {G : GM} {K : Nat → Option va_E} {h : List va_E} {w : Wd} (hw : HW G K h w)  : Ct l G mX1_keep 4 0 0 [.ref (gz G + 53), .ref (gz G + 21)] h (fun v h1 => ∃ r, (fX1_keep_21 w ) = r ∧ v = none ∧ HW G K h1 r) := by
  show Tr l G mX1_keep 4 0 0 0 [(0, .ref (gz G + 53)), (1, .ref (gz G + 21))] [] h _
  refine am_aload_n dX1_keep_0 0 rfl ?_
  refine am_aload_n dX1_keep_1 0 rfl ?_
  refine am_get (v := .int (w.1 11)) dX1_keep_2 kGX1_18 (hwc53 (w := w) hw) rfl ?_
  refine am_callV (As := [.int (w.1 11)]) (rest := []) dX1_keep_5 kMX1_22 rfl (hwc53 (w := w) hw) rfl rfl (Nat.le_of_ble_eq_true rfl) (d2 := 0) (by decide) (k2 := 0) (Nat.zero_le _) (u2 := 0) (Nat.zero_le _) (Nat.le_of_ble_eq_true rfl) (ctX1_placeOf (w := w) hw (w.1 11)) (fun v1 h2 q3 => ?_)
  obtain ⟨rfl, rfl⟩ := q3
  by_cases c4 : ¬ (fX1_placeOf w (w.1 11)) < 0 ∧ ¬ 10 ≤ (fX1_placeOf w (w.1 11))
  · rw [plV_pos c4]
    refine am_astore_n dX1_keep_8 (by decide) (lv' := [(2, .ref (gz G + (55 + 16 * (fX1_placeOf w (w.1 11)).toNatClampNeg))), (0, .ref (gz G + 53)), (1, .ref (gz G + 21))]) rfl ?_
    refine am_aload_n dX1_keep_9 0 rfl ?_
    refine am_ifnull dX1_keep_10  ?_
    refine am_aload_n dX1_keep_13 0 rfl ?_
    refine am_aload_n dX1_keep_14 2 rfl ?_
    refine am_callV (As := [.ref (gz G + 21)]) (rest := []) dX1_keep_15 kMX1_26 rfl (pl_0 (p := (w.2.2.1 (3 + (fX1_placeOf w (w.1 11)).toNatClampNeg))) (hwPk (w := w) hw (kk_lt c4))) rfl rfl (Nat.le_of_ble_eq_true rfl) (d2 := 3) (by decide) (k2 := 0) (Nat.zero_le _) (u2 := 0) (Nat.zero_le _) (Nat.le_of_ble_eq_true rfl) (ctX5_copyFrom (p := (w.2.2.1 (3 + (fX1_placeOf w (w.1 11)).toNatClampNeg))) (hwPk (w := w) hw (kk_lt c4)) (p2 := (w.2.2.1 1)) (hwP1 (w := w) hw) (by omega) ) (fun v5 h6 q7 => ?_)
    obtain ⟨r8, e9, rfl, w10, w11⟩ := q7
    have w12 := hwPuk hw (kk_lt c4) w10 w11
    obtain ⟨r13, e14⟩ : ∃ x, (wP w (3 + (fX1_placeOf w (w.1 11)).toNatClampNeg) r8) = x := ⟨_, rfl⟩
    have w15 := hw_eq e14 w12
    refine am_aload_n dX1_keep_18 1 rfl ?_
    refine am_get (v := .int (r13.1 11)) dX1_keep_19 kGX1_18 (hwc53 (w := r13) w15) rfl ?_
    refine am_bipush (v := 10) dX1_keep_22 (by decide) ?_
    refine am_icmp_ge dX1_keep_24 (by decide : ((24 : Nat) : Int) + (16) = ((40 : Nat) : Int)) (fun c16 => ?_) (fun c16 => ?_)
    · refine am_aload_n dX1_keep_40 1 rfl ?_
      refine am_aload_n dX1_keep_41 1 rfl ?_
      refine am_get (v := .int (r13.1 12)) dX1_keep_42 kGX1_30 (hwc53 (w := r13) w15) rfl ?_
      refine am_iconst (v := 1) dX1_keep_45 (by decide) ?_
      refine am_iadd dX1_keep_46 ?_
      refine am_bipush (v := 10) dX1_keep_47 (by decide) ?_
      refine am_irem dX1_keep_49 (by decide) ?_
      refine am_put dX1_keep_50 kFX1_30 (hwc53 (w := r13) w15) (Nat.le_of_ble_eq_true rfl) rfl rfl ?_
      have w17 := hwS12 w15 (((r13.1 12) + 1) - ((r13.1 12) + 1) / 10 * 10)
      exact am_return dX1_keep_53 rfl ⟨_, Eq.trans (if_pos c4) (bnd_eq e9 (bnd_eq e14 (Eq.trans (if_pos c16) (rfl)))), rfl, w17⟩
    · refine am_aload_n dX1_keep_27 1 rfl ?_
      refine am_dup dX1_keep_28 rfl ?_
      refine am_get (v := .int (r13.1 11)) dX1_keep_29 kGX1_18 (hwc53 (w := r13) w15) rfl ?_
      refine am_iconst (v := 1) dX1_keep_32 (by decide) ?_
      refine am_iadd dX1_keep_33 ?_
      refine am_put dX1_keep_34 kFX1_18 (hwc53 (w := r13) w15) (Nat.le_of_ble_eq_true rfl) rfl rfl ?_
      have w18 := hwS11 w15 ((r13.1 11) + 1)
      refine am_goto dX1_keep_37 (by decide : ((37 : Nat) : Int) + (16) = ((53 : Nat) : Int)) ?_
      exact am_return dX1_keep_53 rfl ⟨_, Eq.trans (if_pos c4) (bnd_eq e9 (bnd_eq e14 (Eq.trans (if_neg c16) (rfl)))), rfl, w18⟩
  · rw [plV_neg c4]
    refine am_astore_nN dX1_keep_8 (by decide) (lv' := [(2, .null), (0, .ref (gz G + 53)), (1, .ref (gz G + 21))]) rfl ?_
    refine am_aload_nN dX1_keep_9 0 rfl ?_
    refine am_ifnullN dX1_keep_10 (by decide : ((10 : Nat) : Int) + (8) = ((18 : Nat) : Int)) ?_
    refine am_aload_n dX1_keep_18 1 rfl ?_
    refine am_get (v := .int (w.1 11)) dX1_keep_19 kGX1_18 (hwc53 (w := w) hw) rfl ?_
    refine am_bipush (v := 10) dX1_keep_22 (by decide) ?_
    refine am_icmp_ge dX1_keep_24 (by decide : ((24 : Nat) : Int) + (16) = ((40 : Nat) : Int)) (fun c19 => ?_) (fun c19 => ?_)
    · refine am_aload_n dX1_keep_40 1 rfl ?_
      refine am_aload_n dX1_keep_41 1 rfl ?_
      refine am_get (v := .int (w.1 12)) dX1_keep_42 kGX1_30 (hwc53 (w := w) hw) rfl ?_
      refine am_iconst (v := 1) dX1_keep_45 (by decide) ?_
      refine am_iadd dX1_keep_46 ?_
      refine am_bipush (v := 10) dX1_keep_47 (by decide) ?_
      refine am_irem dX1_keep_49 (by decide) ?_
      refine am_put dX1_keep_50 kFX1_30 (hwc53 (w := w) hw) (Nat.le_of_ble_eq_true rfl) rfl rfl ?_
      have w20 := hwS12 hw (((w.1 12) + 1) - ((w.1 12) + 1) / 10 * 10)
      exact am_return dX1_keep_53 rfl ⟨_, Eq.trans (if_neg c4) (Eq.trans (if_pos c19) (rfl)), rfl, w20⟩
    · refine am_aload_n dX1_keep_27 1 rfl ?_
      refine am_dup dX1_keep_28 rfl ?_
      refine am_get (v := .int (w.1 11)) dX1_keep_29 kGX1_18 (hwc53 (w := w) hw) rfl ?_
      refine am_iconst (v := 1) dX1_keep_32 (by decide) ?_
      refine am_iadd dX1_keep_33 ?_
      refine am_put dX1_keep_34 kFX1_18 (hwc53 (w := w) hw) (Nat.le_of_ble_eq_true rfl) rfl rfl ?_
      have w21 := hwS11 hw ((w.1 11) + 1)
      refine am_goto dX1_keep_37 (by decide : ((37 : Nat) : Int) + (16) = ((53 : Nat) : Int)) ?_
      exact am_return dX1_keep_53 rfl ⟨_, Eq.trans (if_neg c4) (Eq.trans (if_neg c19) (rfl)), rfl, w21⟩

theorem dX1_takeBack_0 : decode cX1_takeBack 0 = .ok (.aload_n 0, 1) := by decide +kernel
theorem dX1_takeBack_1 : decode cX1_takeBack 1 = .ok (.getfield 18, 3) := by decide +kernel
theorem dX1_takeBack_4 : decode cX1_takeBack 4 = .ok (.ifCond .gt 4, 3) := by decide +kernel
theorem dX1_takeBack_7 : decode cX1_takeBack 7 = .ok (.return_, 1) := by decide +kernel
theorem dX1_takeBack_8 : decode cX1_takeBack 8 = .ok (.aload_n 0, 1) := by decide +kernel
theorem dX1_takeBack_9 : decode cX1_takeBack 9 = .ok (.dup, 1) := by decide +kernel
theorem dX1_takeBack_10 : decode cX1_takeBack 10 = .ok (.getfield 18, 3) := by decide +kernel
theorem dX1_takeBack_13 : decode cX1_takeBack 13 = .ok (.iconst 1, 1) := by decide +kernel
theorem dX1_takeBack_14 : decode cX1_takeBack 14 = .ok (.isub, 1) := by decide +kernel
theorem dX1_takeBack_15 : decode cX1_takeBack 15 = .ok (.putfield 18, 3) := by decide +kernel
theorem dX1_takeBack_18 : decode cX1_takeBack 18 = .ok (.aload_n 0, 1) := by decide +kernel
theorem dX1_takeBack_19 : decode cX1_takeBack 19 = .ok (.aload_n 0, 1) := by decide +kernel
theorem dX1_takeBack_20 : decode cX1_takeBack 20 = .ok (.getfield 18, 3) := by decide +kernel
theorem dX1_takeBack_23 : decode cX1_takeBack 23 = .ok (.invokevirtual 22, 3) := by decide +kernel
theorem dX1_takeBack_26 : decode cX1_takeBack 26 = .ok (.astore_n 2, 1) := by decide +kernel
theorem dX1_takeBack_27 : decode cX1_takeBack 27 = .ok (.aload_n 2, 1) := by decide +kernel
theorem dX1_takeBack_28 : decode cX1_takeBack 28 = .ok (.ifnull 8, 3) := by decide +kernel
theorem dX1_takeBack_31 : decode cX1_takeBack 31 = .ok (.aload_n 1, 1) := by decide +kernel
theorem dX1_takeBack_32 : decode cX1_takeBack 32 = .ok (.aload_n 2, 1) := by decide +kernel
theorem dX1_takeBack_33 : decode cX1_takeBack 33 = .ok (.invokevirtual 26, 3) := by decide +kernel
theorem dX1_takeBack_36 : decode cX1_takeBack 36 = .ok (.return_, 1) := by decide +kernel
def fX1_takeBack_21 (w : Wd)  : Wd := (if 0 < (w.1 11) then (if ¬ (fX1_placeOf (wS w 11 ((w.1 11) - 1)) ((w.1 11) - 1)) < 0 ∧ ¬ 10 ≤ (fX1_placeOf (wS w 11 ((w.1 11) - 1)) ((w.1 11) - 1)) then (bnd (fX5_copyFrom (w.2.2.1 1) (w.2.2.1 (3 + (fX1_placeOf (wS w 11 ((w.1 11) - 1)) ((w.1 11) - 1)).toNatClampNeg)) ) (fun r10 => (wP (wS w 11 ((w.1 11) - 1)) 1 r10))) else (wS w 11 ((w.1 11) - 1))) else w)
set_option maxRecDepth 20000 in
theorem ctX1_takeBack_21 {l : Launch} {G : GM} {K : Nat → Option va_E} {h : List va_E} {w : Wd} (hw : HW G K h w)  : Ct l G mX1_takeBack 4 0 0 [.ref (gz G + 53), .ref (gz G + 21)] h (fun v h1 => ∃ r, (fX1_takeBack_21 w ) = r ∧ v = none ∧ HW G K h1 r) := by
  show Tr l G mX1_takeBack 4 0 0 0 [(0, .ref (gz G + 53)), (1, .ref (gz G + 21))] [] h _
  refine am_aload_n dX1_takeBack_0 0 rfl ?_
  refine am_get (v := .int (w.1 11)) dX1_takeBack_1 kGX1_18 (hwc53 (w := w) hw) rfl ?_
  refine am_if_gt dX1_takeBack_4 (by decide : ((4 : Nat) : Int) + (4) = ((8 : Nat) : Int)) (fun c1 => ?_) (fun c1 => ?_)
  · refine am_aload_n dX1_takeBack_8 0 rfl ?_
    refine am_dup dX1_takeBack_9 rfl ?_
    refine am_get (v := .int (w.1 11)) dX1_takeBack_10 kGX1_18 (hwc53 (w := w) hw) rfl ?_
    refine am_iconst (v := 1) dX1_takeBack_13 (by decide) ?_
    refine am_isub dX1_takeBack_14 ?_
    refine am_put dX1_takeBack_15 kFX1_18 (hwc53 (w := w) hw) (Nat.le_of_ble_eq_true rfl) rfl rfl ?_
    have w2 := hwS11 hw ((w.1 11) - 1)
    refine am_aload_n dX1_takeBack_18 0 rfl ?_
    refine am_aload_n dX1_takeBack_19 0 rfl ?_
    refine am_get (v := .int ((w.1 11) - 1)) dX1_takeBack_20 kGX1_18 (hwc53 (w := (wS w 11 ((w.1 11) - 1))) w2) rfl ?_
    refine am_callV (As := [.int ((w.1 11) - 1)]) (rest := []) dX1_takeBack_23 kMX1_22 rfl (hwc53 (w := (wS w 11 ((w.1 11) - 1))) w2) rfl rfl (Nat.le_of_ble_eq_true rfl) (d2 := 0) (by decide) (k2 := 0) (Nat.zero_le _) (u2 := 0) (Nat.zero_le _) (Nat.le_of_ble_eq_true rfl) (ctX1_placeOf (w := (wS w 11 ((w.1 11) - 1))) w2 ((w.1 11) - 1)) (fun v3 h4 q5 => ?_)
    obtain ⟨rfl, rfl⟩ := q5
    by_cases c6 : ¬ (fX1_placeOf (wS w 11 ((w.1 11) - 1)) ((w.1 11) - 1)) < 0 ∧ ¬ 10 ≤ (fX1_placeOf (wS w 11 ((w.1 11) - 1)) ((w.1 11) - 1))
    · rw [plV_pos c6]
      refine am_astore_n dX1_takeBack_26 (by decide) (lv' := [(2, .ref (gz G + (55 + 16 * (fX1_placeOf (wS w 11 ((w.1 11) - 1)) ((w.1 11) - 1)).toNatClampNeg))), (0, .ref (gz G + 53)), (1, .ref (gz G + 21))]) rfl ?_
      refine am_aload_n dX1_takeBack_27 0 rfl ?_
      refine am_ifnull dX1_takeBack_28  ?_
      refine am_aload_n dX1_takeBack_31 2 rfl ?_
      refine am_aload_n dX1_takeBack_32 0 rfl ?_
      refine am_callV (As := [.ref (gz G + (55 + 16 * (fX1_placeOf (wS w 11 ((w.1 11) - 1)) ((w.1 11) - 1)).toNatClampNeg))]) (rest := []) dX1_takeBack_33 kMX1_26 rfl (pl_0 (p := (w.2.2.1 1)) (hwP1 (w := (wS w 11 ((w.1 11) - 1))) w2)) rfl rfl (Nat.le_of_ble_eq_true rfl) (d2 := 3) (by decide) (k2 := 0) (Nat.zero_le _) (u2 := 0) (Nat.zero_le _) (Nat.le_of_ble_eq_true rfl) (ctX5_copyFrom (p := (w.2.2.1 1)) (hwP1 (w := (wS w 11 ((w.1 11) - 1))) w2) (p2 := (w.2.2.1 (3 + (fX1_placeOf (wS w 11 ((w.1 11) - 1)) ((w.1 11) - 1)).toNatClampNeg))) (hwPk (w := (wS w 11 ((w.1 11) - 1))) w2 (kk_lt c6)) (by omega) ) (fun v7 h8 q9 => ?_)
      obtain ⟨r10, e11, rfl, w12, w13⟩ := q9
      have w14 := hwPu w2 (i := 1) (by decide) w12 w13
      exact am_return dX1_takeBack_36 rfl ⟨_, Eq.trans (if_pos c1) (Eq.trans (if_pos c6) (bnd_eq e11 (rfl))), rfl, w14⟩
    · rw [plV_neg c6]
      refine am_astore_nN dX1_takeBack_26 (by decide) (lv' := [(2, .null), (0, .ref (gz G + 53)), (1, .ref (gz G + 21))]) rfl ?_
      refine am_aload_nN dX1_takeBack_27 0 rfl ?_
      refine am_ifnullN dX1_takeBack_28 (by decide : ((28 : Nat) : Int) + (8) = ((36 : Nat) : Int)) ?_
      exact am_return dX1_takeBack_36 rfl ⟨_, Eq.trans (if_pos c1) (Eq.trans (if_neg c6) (rfl)), rfl, w2⟩
  · exact am_return dX1_takeBack_7 rfl ⟨_, Eq.trans (if_neg c1) (rfl), rfl, hw⟩
