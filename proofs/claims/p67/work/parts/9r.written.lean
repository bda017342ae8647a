/-! What the law reads of a written plant. -/
theorem og_kp {B : Nat} {w w1 : Wd} {h h1 h2 : List va_E} (g : OG B w w1 h h1) (hl : h1.length ≤ h2.length) (hk : ∀ a, a < h1.length → h2[a]? = h1[a]?) : OG B w w1 h h2 := by
  obtain ⟨⟨g1, g2⟩, g3⟩ := g
  exact ⟨⟨by omega, fun a a1 a2 a3 => (hk a (by omega)).trans (g2 a a1 a2 a3)⟩, g3⟩
theorem tk_s {T : List Int32} {i : Nat} (h : i < T.length) : T.take i ++ [T.getD i 0] = T.take (i + 1) := by
  rw [List.take_add_one, List.getD_eq_getElem?_getD, List.getElem?_eq_getElem h]
  rfl
section WRL
variable {l : Launch} {G : GM} {d m : Nat} {h : List va_E} {Q : Option Value → List va_E → Prop} {B Bb : Nat} {w : Wd} {T T0 : List Int32}
theorem dL_written_15 : decode cL_written 15 = .ok (.iload_n 3, 1) := by decide +kernel
theorem dL_written_16 : decode cL_written 16 = .ok (.iload_n 1, 1) := by decide +kernel
theorem dL_written_17 : decode cL_written 17 = .ok (.if_icmp .ge 20, 3) := by decide +kernel
theorem dL_written_20 : decode cL_written 20 = .ok (.aload_n 2, 1) := by decide +kernel
theorem dL_written_21 : decode cL_written 21 = .ok (.aload_n 0, 1) := by decide +kernel
theorem dL_written_22 : decode cL_written 22 = .ok (.iload_n 3, 1) := by decide +kernel
theorem dL_written_23 : decode cL_written 23 = .ok (.invokevirtual 147, 3) := by decide +kernel
theorem dL_written_26 : decode cL_written 26 = .ok (.i2c, 1) := by decide +kernel
theorem dL_written_27 : decode cL_written 27 = .ok (.invokevirtual 73, 3) := by decide +kernel
theorem dL_written_30 : decode cL_written 30 = .ok (.pop, 1) := by decide +kernel
theorem dL_written_31 : decode cL_written 31 = .ok (.iinc 3 1, 3) := by decide +kernel
theorem dL_written_34 : decode cL_written 34 = .ok (.goto (-19), 3) := by decide +kernel
set_option maxRecDepth 20000 in
theorem wr_l (t : WT w T m) (hT : TA T) (hX : T.length ≤ 990) (h1b : B + 221 ≤ Bb + 19) (h2b : B + w.2.2.2.2.2.1 < Bb + 19) {k0 u0 : Nat} (hd : 9 ≤ d) : ∀ (r i : Nat), i + r = T.length → ∀ (h : List va_E), OB G h B w → BL G h Bb (T.take i) → (∀ h1, BL G h1 Bb T → OB G h1 B w → BF Bb h h1 → Tr l G mL_written d k0 u0 37 [(3, .int (nI T.length)), (2, .ref (gz G + (Bb + 19))), (1, .int (nI T.length)), (0, .ref (gz G + B))] [] h1 Q) → Tr l G mL_written d (k0 + 1 * r) (u0 + 2000 * r) 15 [(3, .int (nI i)), (2, .ref (gz G + (Bb + 19))), (1, .int (nI T.length)), (0, .ref (gz G + B))] [] h Q := by
  intro r
  induction r with
  | zero =>
    intro i hi h ho hb kk
    refine am_iload_n dL_written_15 0 rfl ?_
    refine am_iload_n dL_written_16 2 rfl ?_
    refine am_icmp_ge dL_written_17 (by decide : ((17 : Nat) : Int) + (20) = ((37 : Nat) : Int)) (fun _ => ?_) (fun zq => absurd (by rw [nI_leI (by omega) (by omega)]; omega) zq)
    have ei : i = T.length := by omega
    subst ei
    rw [List.take_length] at hb
    exact kk h hb ho (bf_0 _ _)
  | succ r ih =>
    intro i hi h ho hb kk
    refine am_iload_n dL_written_15 0 rfl ?_
    refine am_iload_n dL_written_16 2 rfl ?_
    refine am_icmp_ge dL_written_17 (by decide : ((17 : Nat) : Int) + (20) = ((37 : Nat) : Int)) (fun zq => absurd zq (nI_ge (by omega) (by omega))) (fun _ => ?_)
    refine am_aload_n dL_written_20 1 rfl ?_
    refine am_aload_n dL_written_21 3 rfl ?_
    refine am_iload_n dL_written_22 0 rfl ?_
    obtain ⟨c, c1, c2⟩ := hT i (by omega)
    obtain ⟨fs, hfs⟩ := ob_cell ho
    refine mm_callV (As := [.int (nI i)]) (rest := [.ref (gz G + (Bb + 19))]) dL_written_23 kML_147 rfl hfs rfl rfl (Nat.le_of_ble_eq_true rfl) (d2 := 4) (by omega) (k2 := 0) (Nat.zero_le _) (u2 := 0) (Nat.zero_le _) (om_o3 ho t (by omega) c2 c1) (fun r1 h1 q3 => ?_)
    obtain ⟨rfl, e0⟩ := q3
    subst e0
    refine am_i2c (v := nI c) dL_written_26 (ic_nI c1) ?_
    refine bl_C (c := c) (t := i) (rest := []) (k1 := k0 + 1 * r) (u1 := u0 + 2000 * r) dL_written_27 kML_73 hb c1 (by rw [List.length_take]; omega) (by omega) (Nat.le_of_ble_eq_true rfl) (by omega) (by omega) (by omega) (fun h2 b2 t2 f2 => ?_)
    refine am_pop dL_written_30 rfl ?_
    refine am_iinc (v := (nI (i + 1))) dL_written_31 0 rfl (nI_1 i) (by decide) (lv' := [(3, .int (nI (i + 1))), (2, .ref (gz G + (Bb + 19))), (1, .int (nI T.length)), (0, .ref (gz G + B))]) rfl ?_
    refine am_goto dL_written_34 (by decide : ((34 : Nat) : Int) + (-19) = ((15 : Nat) : Int)) ?_
    rw [← c2, tk_s (by omega)] at b2
    have ho2 : OB G h2 B w := ob_fr ho f2.1 (fun a a1 a2 a3 => f2.2 a (by omega))
    exact ih (i + 1) (by omega) h2 ho2 b2 (fun h3 b3 o3 f3 => kk h3 b3 o3 (bf_T f2 f3))
theorem dL_written_0 : decode cL_written 0 = .ok (.aload_n 0, 1) := by decide +kernel
theorem dL_written_1 : decode cL_written 1 = .ok (.invokevirtual 144, 3) := by decide +kernel
theorem dL_written_4 : decode cL_written 4 = .ok (.istore_n 1, 1) := by decide +kernel
theorem dL_written_5 : decode cL_written 5 = .ok (.new 42, 3) := by decide +kernel
theorem dL_written_8 : decode cL_written 8 = .ok (.dup, 1) := by decide +kernel
theorem dL_written_9 : decode cL_written 9 = .ok (.invokespecial 44, 3) := by decide +kernel
theorem dL_written_12 : decode cL_written 12 = .ok (.astore_n 2, 1) := by decide +kernel
theorem dL_written_13 : decode cL_written 13 = .ok (.iconst 0, 1) := by decide +kernel
theorem dL_written_14 : decode cL_written 14 = .ok (.istore_n 3, 1) := by decide +kernel
theorem dL_written_37 : decode cL_written 37 = .ok (.aload_n 2, 1) := by decide +kernel
theorem dL_written_38 : decode cL_written 38 = .ok (.invokevirtual 64, 3) := by decide +kernel
theorem dL_written_41 : decode cL_written 41 = .ok (.areturn, 1) := by decide +kernel
set_option maxRecDepth 20000 in
theorem ctL_written {ny ns nz np : Nat} {p : Pl} (ho : OB G h B w) (t : WT w T0 m) (hV : VT p ny ns nz np) (hA : AG p (w.2.2.1 1) ny ns nz np) (hT : TA (wtB p ny ns nz np)) (hX : (wtB p ny ns nz np).length ≤ 990) : Ct l G mL_written 10 (cK (wtB p ny ns nz np).length m + (2 + 1 * (wtB p ny ns nz np).length + 2)) (cU (wtB p ny ns nz np).length m + (20 + 2000 * (wtB p ny ns nz np).length + (4 + (wtB p ny ns nz np).length))) [.ref (gz G + B)] h (fun r h1 => ∃ si w1, r = some (.ref (gz G + si)) ∧ OB G h1 B w1 ∧ OG B w w1 h h1 ∧ hz_tF w w1 ∧ WT w1 (wtB p ny ns nz np) (cN (wtB p ny ns nz np).length m) ∧ SD G h.length h1 si (wtB p ny ns nz np) ∧ h.length ≤ h1.length) := by
  show Tr l G mL_written 10 (cK (wtB p ny ns nz np).length m + (2 + 1 * (wtB p ny ns nz np).length + 2)) (cU (wtB p ny ns nz np).length m + (20 + 2000 * (wtB p ny ns nz np).length + (4 + (wtB p ny ns nz np).length))) 0 [(0, .ref (gz G + B))] [] h _
  refine am_aload_n dL_written_0 0 rfl ?_
  obtain ⟨fs, hfs⟩ := ob_cell ho
  refine mm_callV (As := []) (rest := []) dL_written_1 kML_144 rfl hfs rfl rfl (Nat.le_of_ble_eq_true rfl) (d2 := 9) (by omega) (k2 := cK (wtB p ny ns nz np).length m) (by omega) (u2 := cU (wtB p ny ns nz np).length m) (by omega) (om_wp ho t hV hA (by omega)) (fun r1 h1 q3 => ?_)
  obtain ⟨rfl, w1, o1, f1, t1, g1⟩ := q3
  generalize hTT : wtB p ny ns nz np = T at *
  refine am_room (k1 := 2 + 1 * T.length + 2) (u1 := 20 + 2000 * T.length + (4 + T.length)) ?_ (by omega) (by omega)
  refine am_istore_n dL_written_4 (by decide) (lv' := [(1, .int (nI T.length)), (0, .ref (gz G + B))]) rfl ?_
  obtain ⟨l1, l2, l3⟩ := ob_len o1
  obtain ⟨Bb, hBb⟩ : ∃ Bb, h1.length = Bb + 19 := ⟨h1.length - 19, by omega⟩
  refine am_newL (n := Bb + 19) hBb (k1 := 1 + 1 * T.length + 2) (u1 := 16 + 2000 * T.length + (4 + T.length)) dL_written_5 kNL_42 (by omega) (by omega) ?_
  have x1 : (h1 ++ [(.inr (0, [.null, .int 0, .int 0, .int 0]) : va_E)])[Bb + 19]? = some (.inr (0, [.null, .int 0, .int 0, .int 0])) := hs_newc hBb
  have x2 : (h1 ++ [(.inr (0, [.null, .int 0, .int 0, .int 0]) : va_E)]).length = Bb + 20 := by rw [List.length_append, hBb]; rfl
  refine am_dup dL_written_8 rfl ?_
  refine mm_callI (As := []) (rest := [.ref (gz G + (Bb + 19))]) dL_written_9 kML_44 rfl rfl (Nat.le_of_ble_eq_true rfl) (d2 := 2) (by omega) (k2 := 1) (by omega) (u2 := 16) (by omega) (bl_init x2 x1) (fun r1 h2 q3 => ?_)
  obtain ⟨rfl, b2, f2⟩ := q3
  have kp2 : ∀ a, a < h1.length → h2[a]? = h1[a]? := fun a ha => by rw [f2.2 a (by omega), List.getElem?_append_left ha]
  have le2 : h1.length ≤ h2.length := by have := f2.1; omega
  have o2 : OB G h2 B w1 := ob_kp o1 le2 kp2
  refine am_astore_n dL_written_12 (by decide) (lv' := [(2, .ref (gz G + (Bb + 19))), (1, .int (nI T.length)), (0, .ref (gz G + B))]) rfl ?_
  refine am_iconst (v := 0) dL_written_13 (by decide) ?_
  refine am_istore_n dL_written_14 (by decide) (lv' := [(3, .int 0), (2, .ref (gz G + (Bb + 19))), (1, .int (nI T.length)), (0, .ref (gz G + B))]) rfl ?_
  refine am_room (k1 := 2 + 1 * T.length) (u1 := (4 + T.length) + 2000 * T.length) ?_ (by omega) (by omega)
  refine wr_l t1 hT hX (by omega) (by omega) (by omega) T.length 0 (Nat.zero_add _) h2 o2 b2 (fun h3 b3 o3 f3 => ?_)
  refine am_aload_n dL_written_37 1 rfl ?_
  obtain ⟨fs2, hcb⟩ := bl_cell b3
  refine mm_callV (As := []) (rest := []) (i := Bb + 19) dL_written_38 kML_64 rfl hcb rfl rfl (Nat.le_of_ble_eq_true rfl) (d2 := 5) (by omega) (k2 := 2) (by omega) (u2 := 4 + T.length) (by omega) (bl_toStr b3) (fun r1 h4 q3 => ?_)
  obtain ⟨rfl, s1, s2, s3⟩ := q3
  have kp4 : ∀ a, a < h1.length → h4[a]? = h1[a]? := fun a ha => by rw [s3 a (by have := f3.1; omega), f3.2 a (by omega), kp2 a ha]
  have le4 : h1.length ≤ h4.length := by have := f3.1; omega
  exact am_areturn dL_written_41 rfl (Or.inl ⟨_, rfl⟩) ⟨_, w1, rfl, ob_kp o1 le4 kp4, og_kp g1 le4 kp4, f1, t1, sd_lo s1 (by have := f3.1; have := g1.1.1; omega), by have := g1.1.1; omega⟩
end WRL
