/-! writePlant and outputByte on both sides. -/
section MTP
variable {m0 : Md} {p : Pl} {ny ns nz np : Nat}
theorem mt_pieces (hP : hz_PR p (m0.2.1 0) ny ns nz np) (h0 : m0.2.2 = 0) {m : Md} {T : List Int32} (h : MT m0 T m) (hT : T.length + ((List.range' 0 np).flatMap (pcB p)).length ≤ 1900) : ∀ fu, np < fu → sX7_writePlant_96 fu 0 m ∧ MT m0 (T ++ (List.range' 0 np).flatMap (pcB p)) (fX7_writePlant_96 fu 0 m).2 := by
  intro fu hf
  have hnp : np ≤ 14 := hP.2.1.2.2.2
  have h8 : m0.2.1 0 8 = nI np := hP.2.2.1.2.2.2
  have key : ∀ (y : Md) (T : List Int32), MT m0 T y → (y.2.1 0) 8 = nI np := fun y T h => by rw [mt_row h, h8]
  have r := mt_loop (m0 := m0) (f := fX7_writePlant_96) (s := sX7_writePlant_96) (FN := fun x y => fX7_writePiece y x) (SN := fun x y => sX7_writePiece y x) (N := np) (by omega) (pcB p)
    (fun fu x y T h c => ⟨if_pos (by rw [key y T h]; exact c), fun _ => trivial, fun hh => absurd (show (y.2.1 0) 8 ≤ x by rw [key y T h]; exact c) hh⟩)
    (fun fu x y T h c => ⟨if_neg (by rw [key y T h]; exact c), fun s1 s2 => ⟨fun hh => absurd hh (by rw [key y T h]; exact c), fun _ => ⟨s1, s2⟩⟩⟩)
    (fun i T m hi h hT => mt_piece hP h0 i T m hi h hT) np 0 fu T m (by omega) hf h hT
  rw [nI_0] at r
  exact r
theorem mt_plant (hP : hz_PR p (m0.2.1 0) ny ns nz np) (h0 : m0.2.2 = 0) : sX7_writePlant m0 ∧ (fX7_writePlant m0).1 = nI (wtB p ny ns nz np).length ∧ MT m0 (wtB p ny ns nz np) (fX7_writePlant m0).2 := by
  obtain ⟨-, hlen⟩ := wtB_ok hP
  obtain ⟨b1, b2, b3, b4⟩ := hP.2.2.2.2.1
  obtain ⟨z3, -, l3, e3⟩ := hz_rgN (a := 0) (b := 500) b1 (by decide)
  obtain ⟨z4, -, l4, e4⟩ := hz_rgN (a := 0) (b := 255) b2 (by decide)
  obtain ⟨z5, -, l5, e5⟩ := hz_rgN (a := 0) (b := 100) b3 (by decide)
  obtain ⟨z6, -, l6, e6⟩ := hz_rgN (a := 1) (b := 6) b4 (by decide)
  obtain ⟨f0, f1, f2, f3, -⟩ := hP.2.2.2.1
  obtain ⟨f5, f6, f7, f8⟩ := hP.2.2.1
  obtain ⟨hny, hns, hnz, hnp⟩ := hP.2.1
  have w3 := sbW_le z3
  have w4 := sbW_le z4
  have w5 := sbW_le z5
  have w6 := sbW_le z6
  have eh : hdB p = tS11 ++ [nI 32] ++ numB z3 ++ [nI 32] ++ numB z4 ++ [nI 59] ++ tS12 ++ [nI 32] ++ numB z5 ++ [nI 59] ++ tS13 ++ [nI 32] ++ numB z6 ++ [nI 59] := by
    unfold hdB
    rw [e3, e4, e5, e6, nI_clamp (n := z3) (by omega), nI_clamp (n := z4) (by omega), nI_clamp (n := z5) (by omega), nI_clamp (n := z6) (by omega)]
  have el : (wtB p ny ns nz np).length = (hdB p).length + (((List.range' 0 ny).flatMap (yB p)).length + ((List.range' 0 ns).flatMap (sB p)).length + ((List.range' 0 nz).flatMap (zB p)).length) + ((List.range' 0 np).flatMap (pcB p)).length := by
    unfold wtB ctB
    simp only [List.length_append]
  have st : MT m0 [] (mS m0 12 0) := ⟨fun k hk => if_neg hk, fun _ _ => rfl, rfl, by show (if (12 : Nat) = 12 then (0 : Int32) else m0.1 12) = nI 0; exact if_pos rfl, fun j hj => absurd hj (Nat.not_lt_zero j)⟩
  obtain ⟨s1, t1⟩ := mt_text st sq21 (L := tS11) rfl (by decide) (by decide) (by decide)
  obtain ⟨r6, g6⟩ : ∃ r, fX7_writeText (mS m0 12 0) sq21 = r := ⟨_, rfl⟩
  rw [g6, List.nil_append] at t1
  obtain ⟨s2, t2⟩ := mt_nums2 t1 (p := 0) (z := z3) (z2 := z4) (by decide) (by rw [f0, e3]) (by omega) (by rw [f1, e4]) (by omega) (by rw [tS11_len]; omega)
  rw [nI_0] at s2 t2
  obtain ⟨r13, g13⟩ : ∃ r, fX7_writeNumbers r6 0 2 = r := ⟨_, rfl⟩
  rw [g13] at t2
  obtain ⟨s3, t3⟩ := mt_text t2 sq22 (L := tS12) rfl (by decide) (by decide) (by simp only [List.length_append, List.length_cons, List.length_nil, numB_len, tS11_len, tS12_len]; omega)
  obtain ⟨r20, g20⟩ : ∃ r, fX7_writeText r13 sq22 = r := ⟨_, rfl⟩
  rw [g20] at t3
  obtain ⟨s4, t4⟩ := mt_nums1 t3 (p := 2) (z := z5) (by decide) (by rw [f2, e5]) (by omega) (by simp only [List.length_append, List.length_cons, List.length_nil, numB_len, tS11_len, tS12_len]; omega)
  have s4' : sX7_writeNumbers r20 2 1 := s4
  obtain ⟨r27, g27⟩ : ∃ r, fX7_writeNumbers r20 2 1 = r := ⟨_, rfl⟩
  have t4' : MT m0 (tS11 ++ [nI 32] ++ numB z3 ++ [nI 32] ++ numB z4 ++ [nI 59] ++ tS12 ++ [nI 32] ++ numB z5 ++ [nI 59]) r27 := by rw [← g27]; exact t4
  obtain ⟨s5, t5⟩ := mt_text t4' sq23 (L := tS13) rfl (by decide) (by decide) (by simp only [List.length_append, List.length_cons, List.length_nil, numB_len, tS11_len, tS12_len, tS13_len]; omega)
  obtain ⟨r34, g34⟩ : ∃ r, fX7_writeText r27 sq23 = r := ⟨_, rfl⟩
  rw [g34] at t5
  obtain ⟨s6, t6⟩ := mt_nums1 t5 (p := 3) (z := z6) (by decide) (by rw [f3, e6]) (by omega) (by simp only [List.length_append, List.length_cons, List.length_nil, numB_len, tS11_len, tS12_len, tS13_len]; omega)
  have s6' : sX7_writeNumbers r34 3 1 := s6
  obtain ⟨r41, g41⟩ : ∃ r, fX7_writeNumbers r34 3 1 = r := ⟨_, rfl⟩
  have t6' : MT m0 (hdB p) r41 := by rw [← g41, eh]; exact t6
  obtain ⟨s7, t7⟩ := mt_table t6' (q := sq24) (z2 := 10) (z3 := 3) (N := ny) (by omega) (yB p) (fun i T m hi h hT => mt_rowY hP i T m hi h hT) (by omega)
  have v5 : (r41.2.1 0) 5 = nI ny := by rw [mt_row t6', f5]
  obtain ⟨r48, g48⟩ : ∃ r, fX7_writeTable r41 sq24 10 3 (nI ny) = r := ⟨_, rfl⟩
  rw [g48] at t7
  obtain ⟨s8, t8⟩ := mt_table t7 (q := sq25) (z2 := 28) (z3 := 2) (N := ns) (by omega) (sB p) (fun i T m hi h hT => mt_rowS hP i T m hi h hT) (by simp only [List.length_append]; omega)
  have v6 : (r48.2.1 0) 6 = nI ns := by rw [mt_row t7, f6]
  obtain ⟨r55, g55⟩ : ∃ r, fX7_writeTable r48 sq25 28 2 (nI ns) = r := ⟨_, rfl⟩
  rw [g55] at t8
  obtain ⟨s9, t9⟩ := mt_table t8 (q := sq26) (z2 := 44) (z3 := 3) (N := nz) (by omega) (zB p) (fun i T m hi h hT => mt_rowZ hP i T m hi h hT) (by simp only [List.length_append]; omega)
  have v7 : (r55.2.1 0) 7 = nI nz := by rw [mt_row t8, f7]
  obtain ⟨r62, g62⟩ : ∃ r, fX7_writeTable r55 sq26 44 3 (nI nz) = r := ⟨_, rfl⟩
  rw [g62] at t9
  obtain ⟨s10, t10⟩ := mt_pieces hP h0 t9 (by simp only [List.length_append]; omega) (fuU 2147483647 0) (by have := hz_fuB (q := 0) (by decide); rw [nI_0] at this; omega)
  obtain ⟨r74, g74⟩ : ∃ r, fX7_writePlant_96 (fuU 2147483647 0) 0 r62 = r := ⟨_, rfl⟩
  rw [g74] at t10
  have ew : wtB p ny ns nz np = hdB p ++ (List.range' 0 ny).flatMap (yB p) ++ (List.range' 0 ns).flatMap (sB p) ++ (List.range' 0 nz).flatMap (zB p) ++ (List.range' 0 np).flatMap (pcB p) := by
    unfold wtB ctB
    simp only [List.append_assoc]
  rw [← ew] at t10
  have e : fX7_writePlant m0 = (r74.2.1 12, r74.2) := by
    unfold fX7_writePlant
    simp only [hz_bnd]
    rw [g6, g13, g20, g27, g34, g41, v5, g48, v6, g55, v7, g62, g74]
  rw [e]
  refine ⟨?_, t10.2.2.2.1, t10⟩
  unfold sX7_writePlant
  simp only [hz_bnd]
  rw [g6, g13, g20, g27, g34, g41, v5, g48, v6, g55, v7, g62]
  exact ⟨s1, s2, s3, s4', s5, s6', s7, s8, s9, s10, trivial⟩
end MTP
theorem hz_RtB {n : Nat} {w w1 : Wd} {m m1 : Md} (hR : hz_R n w m) (hw : hz_tF w w1) {T : List Int32} (hm : MT m T m1) (hT : T.length ≤ 2000) (hB : allB T) (hc : w1.1 16 = nI T.length) (hb : hz_bb T.length w1.2.2.2.2.2) (hr : ∀ j, j < T.length → w1.2.2.2.2.2.2.2 j = T.getD j 0) : hz_R n w1 m1 := by
  obtain ⟨ny, ns, nz, np, r, ⟨hP0, hP⟩, ⟨hr1, hr2, hr3⟩, hK, hH, hI, hE, -⟩ := hR
  obtain ⟨a1, a2, a3, a4, a5⟩ := hw
  obtain ⟨b1, b2, b3, b4, b5⟩ := hm
  refine ⟨ny, ns, nz, np, r, ⟨b3.trans hP0, by rw [a3, b2 0 (by decide)]; exact hP⟩, ⟨hr1, a5.trans hr2, by rw [a4]; exact hr3⟩, ?_, ?_, ?_, ?_, ?_⟩
  · unfold hz_RK hz_kn at hK ⊢
    rw [a1 13 (by decide) (by decide), a1 14 (by decide) (by decide), a1 15 (by decide) (by decide), a2, a3]
    exact hK
  · obtain ⟨cnt, old, c1, c2, c3, c4, c5, c6⟩ := hH
    refine ⟨cnt, old, c1, c2, (a1 11 (by decide) (by decide)).trans c3, (a1 12 (by decide) (by decide)).trans c4, (b1 2 (by decide)).trans c5, fun i hi => ?_⟩
    rw [a3, b2 6 (by decide)]
    exact c6 i hi
  · obtain ⟨L, c1, c2, c3, c4⟩ := hI
    refine ⟨L, c1, (a1 0 (by decide) (by decide)).trans c2, (b1 3 (by decide)).trans c3, fun j hj => ?_⟩
    rw [a2, b2 7 (by decide)]
    exact c4 j hj
  · exact ⟨(a1 1 (by decide) (by decide)).trans (hE.1.trans (b1 9 (by decide)).symm), (a1 2 (by decide) (by decide)).trans (hE.2.trans (b1 10 (by decide)).symm)⟩
  · refine ⟨T.length, hT, hb, hc, b4, fun j hj => ?_⟩
    obtain ⟨b, q1, q2⟩ := hB (T.getD j 0) (by rw [List.getD_eq_getElem?_getD, List.getElem?_eq_getElem hj]; exact List.getElem_mem hj)
    exact ⟨b, q1, by rw [hr j hj, q2], by rw [b5 j hj, q2]⟩
theorem tb_of {G : GM} {K : Nat → Option va_E} {h : List va_E} {n : Nat} {w : Wd} {m : Md} (hw : HW G K h w) (hR : hz_R n w m) : ∃ T, TB G K w T h w.2.2.2.2.2.2.1 ∧ T.length ≤ 2000 ∧ m.1 12 = nI T.length ∧ ∀ j, j < T.length → ∃ b, b < 128 ∧ T.getD j 0 = nI b ∧ m.2.1 8 j = nI b := by
  obtain ⟨_, _, _, _, _, -, -, -, -, -, -, C, c1, c2, c3, c4, c5⟩ := hR
  have el : ((List.range C).map w.2.2.2.2.2.2.2).length = C := by rw [List.length_map, List.length_range]
  have eg : ∀ j, j < C → ((List.range C).map w.2.2.2.2.2.2.2).getD j 0 = w.2.2.2.2.2.2.2 j := fun j hj => by
    rw [List.getD_eq_getElem?_getD, List.getElem?_map, List.getElem?_range hj]
    rfl
  refine ⟨(List.range C).map w.2.2.2.2.2.2.2, ⟨w, hw, ⟨fun _ _ _ => rfl, rfl, rfl, rfl, rfl⟩, by rw [el]; exact c3, rfl, c2.2, by rw [el]; exact c2.1, fun j hj => ?_⟩, by rw [el]; exact c1, by rw [el]; exact c4, fun j hj => ?_⟩
  · rw [el] at hj
    rw [eg j hj]
  · rw [el] at hj
    rw [eg j hj]
    exact c5 j hj
theorem hp_writePlant {l : Launch} {G : GM} {K : Nat → Option va_E} {h : List va_E} {n : Nat} {w : Wd} {m : Md} (hw : HW G K h w) (hR : hz_R n w m) : ∃ (k u : Nat) (Q : Option Value → List va_E → Prop), k ≤ 112 ∧ u ≤ 8004 ∧ sX7_writePlant m ∧ Ct l G mX6_writePlant 9 k u [.ref (gz G + 0)] h Q ∧ ∀ r h1, Q r h1 → r = some (.int (fX7_writePlant m).1) ∧ ∃ w1, HW G K h1 w1 ∧ hz_R n w1 (fX7_writePlant m).2 := by
  obtain ⟨T, t0, -⟩ := tb_of hw hR
  obtain ⟨-, -, -, -, -, -, -, hm16⟩ := tb_sb t0
  obtain ⟨ny, ns, nz, np, r, ⟨hP0, hP⟩, -⟩ := id hR
  obtain ⟨k1, k2, k3⟩ := mt_plant hP hP0
  obtain ⟨hB, hlen⟩ := wtB_ok hP
  obtain ⟨d1, d2, -⟩ := c_bd (X := (wtB (w.2.2.1 1) ny ns nz np).length) (by omega) 2000 w.2.2.2.2.2.2.1 hm16 (by omega)
  obtain ⟨b1, b2, b3, b4⟩ := hP.2.2.2.2.1
  obtain ⟨z3, -, l3, e3⟩ := hz_rgN (a := 0) (b := 500) b1 (by decide)
  obtain ⟨z4, -, l4, e4⟩ := hz_rgN (a := 0) (b := 255) b2 (by decide)
  obtain ⟨z5, -, l5, e5⟩ := hz_rgN (a := 0) (b := 100) b3 (by decide)
  obtain ⟨z6, -, l6, e6⟩ := hz_rgN (a := 1) (b := 6) b4 (by decide)
  have hny : ny ≤ 6 := hP.2.1.1
  have q0 : ∀ i, i < ny → ∃ a b : Nat, a < 10000 ∧ b < 10000 ∧ (w.2.2.1 1).2 1 i = nI a ∧ (w.2.2.1 1).2 2 i = nI b := fun i hi => by
    obtain ⟨-, -, -, g4, g5⟩ := hP.2.2.2.2.2.1 i hi
    obtain ⟨a, a1, a2, a3⟩ := hz_rgN (a := 1) (b := 100) g4 (by decide)
    obtain ⟨b, b1, b2, b3⟩ := hz_rgN (a := 0) (b := 50) g5 (by decide)
    exact ⟨a, b, by omega, by omega, a3, b3⟩
  have q1 : ∀ i, i < ns → ∃ a : Nat, a < 10000 ∧ (w.2.2.1 1).2 4 i = nI a := fun i hi => by
    obtain ⟨-, -, g4⟩ := hP.2.2.2.2.2.2.1 i hi
    obtain ⟨a, a1, a2, a3⟩ := hz_rgN (a := 500) (b := 9999) g4 (by decide)
    exact ⟨a, by omega, a3⟩
  have q2 : ∀ i, i < nz → ∃ a b : Nat, a < 10000 ∧ b < 10000 ∧ (w.2.2.1 1).2 6 i = nI a ∧ (w.2.2.1 1).2 7 i = nI b := fun i hi => by
    obtain ⟨-, -, -, g4, g5⟩ := hP.2.2.2.2.2.2.2.1 i hi
    obtain ⟨a, a1, a2, a3⟩ := hz_rgN (a := 500) (b := 9999) g4 (by decide)
    obtain ⟨b, b1, b2, b3⟩ := hz_rgN (a := 500) (b := 9999) g5 (by decide)
    exact ⟨a, b, by omega, by omega, a3, b3⟩
  have q8 : ∀ i, i < np → ∃ y kd a b : Nat, y < 6 ∧ kd < 3 ∧ a < 10000 ∧ b < 10000 ∧ (w.2.2.1 1).2 8 i = nI y ∧ (w.2.2.1 1).2 9 i = nI kd ∧ (w.2.2.1 1).2 10 i = nI a ∧ (w.2.2.1 1).2 12 i = nI b := fun i hi => by
    obtain ⟨-, ⟨y, hy, ey⟩, ⟨kd, hk, ek⟩, g4, -, g5, -⟩ := hP.2.2.2.2.2.2.2.2 i hi
    obtain ⟨a, a1, a2, a3⟩ := hz_rgN (a := 500) (b := 9999) g4 (by decide)
    obtain ⟨b, b1, b2, b3⟩ := hz_rgN (a := 0) (b := 255) g5 (by decide)
    exact ⟨y, kd, a, b, by omega, hk, by omega, by omega, ey, ek, a3, b3⟩
  have c := ctX6_writePlant (l := l) t0 (m := w.2.2.2.2.2.2.1) (ny := ny) (ns := ns) (nz := nz) (np := np) (z3 := z3) (z4 := z4) (z5 := z5) (z6 := z6) (by omega) hP.1.1 hP.2.1.1 q0 hP.1.2.1 hP.2.1.2.1 q1 hP.1.2.2.1 hP.2.1.2.2.1 q2 hP.1.2.2.2 hP.2.1.2.2.2 q8 (by omega) (by omega) (by omega) (by omega) e3 e4 e5 e6
  refine ⟨_, _, _, ?_, ?_, k1, c, fun r h1 hq => ?_⟩
  · omega
  · omega
  obtain ⟨hr, w1, v1, v2, v3, v4, v5, v6, v7⟩ := hq
  refine ⟨by rw [k2]; exact hr, w1, v1, hz_RtB hR v2 k3 (by omega) hB v3 ⟨by rw [v4]; exact v6, v5⟩ v7⟩
theorem hp_outputByte {l : Launch} {G : GM} {K : Nat → Option va_E} {h : List va_E} {n : Nat} {w : Wd} {m : Md} (hw : HW G K h w) (hR : hz_R n w m) (z : Int32) : sX7_outputByte m z ∧ Ct l G mX6_outputByte 4 0 0 [.ref (gz G + 0), .int z] h (fun r h1 => r = some (.int (fX7_outputByte m z)) ∧ h1 = h) := by
  obtain ⟨T, t0, tl, tc, tj⟩ := tb_of hw hR
  obtain ⟨v, f, ml, hb, hf, -⟩ := tb_sb t0
  have e : fX7_outputByte m z = if hz_is T.length z = 0 then -1 else (m.2.1 8) z.toNatClampNeg := by
    unfold fX7_outputByte
    rw [tc, hz_isb (by omega)]
  have es : sX7_outputByte m z = ((hz_is T.length z = 0 → True) ∧ (¬ hz_is T.length z = 0 → (vp_in z 2000 ∧ True))) := by
    unfold sX7_outputByte
    rw [tc, hz_isb (by omega)]
  rw [e, es]
  by_cases h0 : z < 0
  · have ei : hz_is T.length z = 0 := if_pos h0
    rw [if_pos ei]
    exact ⟨⟨fun _ => trivial, fun hh => absurd ei hh⟩, ctX6_outB1 hw hb h0⟩
  · by_cases hc : nI T.length ≤ z
    · have ei : hz_is T.length z = 0 := (if_neg h0).trans (if_pos hc)
      rw [if_pos ei]
      refine ⟨⟨fun _ => trivial, fun hh => absurd ei hh⟩, ctX6_outB2 hw hb h0 (fun hh => ?_)⟩
      rw [hz_lt] at hh
      rw [hz_le] at hc
      omega
    · have ei : ¬ hz_is T.length z = 0 := by
        show ¬ (if z < 0 then (0 : Int32) else if nI T.length ≤ z then 0 else 1) = 0
        rw [if_neg h0, if_neg hc]
        decide
      obtain ⟨i, hi, rfl⟩ := hz_is_of (by omega) ei
      obtain ⟨b, b1, b2, b3⟩ := tj i hi
      rw [if_neg ei, nI_clamp (by omega), b3]
      refine ⟨⟨fun hh => absurd hh ei, fun _ => ⟨vp_in_nI (by omega) (by omega), trivial⟩⟩, ctX6_outB3 hw hb h0 ?_ hi ((hf i hi).trans b2) b1⟩
      rw [hz_lt, nI_toInt (by omega), nI_toInt (by omega)]
      omega
