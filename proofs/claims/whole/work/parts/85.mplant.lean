/-! The model writes the plant. -/
theorem mt_nums1 {m0 m : Md} {T : List Int32} (h : MT m0 T m) {p z : Nat} (hp : p < 146) (hv : m0.2.1 0 p = nI z) (hz : z < 10000) (hT : T.length + 2 + sbW z ≤ 2000) : sX7_writeNumbers m (nI p) 1 ∧ MT m0 (T ++ [nI 32] ++ numB z ++ [nI 59]) (fX7_writeNumbers m (nI p) 1) := by
  have e1 : ∀ (fu : Nat) (x : Int32) (y : Md), fX7_writeNumbers_2 (nI p) 1 (fu + 1) x y = (if 1 ≤ x then (x, y) else (fX7_writeNumbers_2 (nI p) 1 fu (x + 1) (fX7_writeNumber y ((y.2.1 0) (nI p + x).toNatClampNeg)))) := fun _ _ _ => rfl
  have e2 : ∀ (fu : Nat) (x : Int32) (y : Md), sX7_writeNumbers_2 (nI p) 1 (fu + 1) x y = ((1 ≤ x → True) ∧ (¬ 1 ≤ x → (vp_in (nI p + x) 146 ∧ ((sX7_writeNumber y ((y.2.1 0) (nI p + x).toNatClampNeg)) ∧ (sX7_writeNumbers_2 (nI p) 1 fu (x + 1) (fX7_writeNumber y ((y.2.1 0) (nI p + x).toNatClampNeg))))))) := fun _ _ _ => rfl
  have f2 : fuU 1 0 = 1 + 1 := rfl
  have c0 : ¬ (1 : Int32) ≤ 0 := by decide
  have c1 : (1 : Int32) ≤ 0 + 1 := by decide
  have ev : (m.2.1 0) (nI p + 0).toNatClampNeg = nI z := by rw [Int32.add_zero, nI_clamp (by omega), mt_row h, hv]
  obtain ⟨n1, n2⟩ := mt_num h hz (by omega)
  obtain ⟨w1, w2⟩ := mt_w n2 (z := 59) (b := 59) rfl (by decide) (by simp only [List.length_append, List.length_cons, List.length_nil, numB_len]; omega)
  unfold sX7_writeNumbers fX7_writeNumbers
  simp only [hz_bid]
  simp only [hz_bnd]
  rw [f2, e1, e2, if_neg c0, ev, e1, if_pos c1]
  refine ⟨⟨⟨fun hh => absurd hh c0, fun _ => ⟨by rw [Int32.add_zero]; exact vp_in_nI hp (by omega), n1, ?_⟩⟩, w1, trivial⟩, w2⟩
  exact ⟨fun _ => trivial, fun hh => absurd c1 hh⟩
theorem mt_nums2 {m0 m : Md} {T : List Int32} (h : MT m0 T m) {p z z2 : Nat} (hp : p + 1 < 146) (hv : m0.2.1 0 p = nI z) (hz : z < 10000) (hv2 : m0.2.1 0 (p + 1) = nI z2) (hz2 : z2 < 10000) (hT : T.length + 3 + sbW z + sbW z2 ≤ 2000) : sX7_writeNumbers m (nI p) 2 ∧ MT m0 (T ++ [nI 32] ++ numB z ++ [nI 32] ++ numB z2 ++ [nI 59]) (fX7_writeNumbers m (nI p) 2) := by
  have e1 : ∀ (fu : Nat) (x : Int32) (y : Md), fX7_writeNumbers_2 (nI p) 2 (fu + 1) x y = (if 2 ≤ x then (x, y) else (fX7_writeNumbers_2 (nI p) 2 fu (x + 1) (fX7_writeNumber y ((y.2.1 0) (nI p + x).toNatClampNeg)))) := fun _ _ _ => rfl
  have e2 : ∀ (fu : Nat) (x : Int32) (y : Md), sX7_writeNumbers_2 (nI p) 2 (fu + 1) x y = ((2 ≤ x → True) ∧ (¬ 2 ≤ x → (vp_in (nI p + x) 146 ∧ ((sX7_writeNumber y ((y.2.1 0) (nI p + x).toNatClampNeg)) ∧ (sX7_writeNumbers_2 (nI p) 2 fu (x + 1) (fX7_writeNumber y ((y.2.1 0) (nI p + x).toNatClampNeg))))))) := fun _ _ _ => rfl
  have f2 : fuU 2 0 = 1 + 1 + 1 := rfl
  have c0 : ¬ (2 : Int32) ≤ 0 := by decide
  have c1 : ¬ (2 : Int32) ≤ 0 + 1 := by decide
  have c2 : (2 : Int32) ≤ 0 + 1 + 1 := by decide
  have ev : (m.2.1 0) (nI p + 0).toNatClampNeg = nI z := by rw [Int32.add_zero, nI_clamp (by omega), mt_row h, hv]
  have ep : nI p + (0 + 1) = nI (p + 1) := by rw [Int32.zero_add, ← nI_succ]
  obtain ⟨n1, n2⟩ := mt_num h hz (by omega)
  have ev2 : ((fX7_writeNumber m (nI z)).2.1 0) (nI p + (0 + 1)).toNatClampNeg = nI z2 := by rw [ep, nI_clamp (by omega), mt_row n2, hv2]
  obtain ⟨n3, n4⟩ := mt_num n2 hz2 (by simp only [List.length_append, List.length_cons, List.length_nil, numB_len]; omega)
  obtain ⟨w1, w2⟩ := mt_w n4 (z := 59) (b := 59) rfl (by decide) (by simp only [List.length_append, List.length_cons, List.length_nil, numB_len]; omega)
  unfold sX7_writeNumbers fX7_writeNumbers
  simp only [hz_bid]
  simp only [hz_bnd]
  rw [f2, e1, e2, if_neg c0, ev, e1, e2, if_neg c1, ev2, e1, e2, if_pos c2]
  refine ⟨⟨⟨fun hh => absurd hh c0, fun _ => ⟨by rw [Int32.add_zero]; exact vp_in_nI (by omega) (by omega), n1, fun hh => absurd hh c1, fun _ => ⟨by rw [ep]; exact vp_in_nI hp (by omega), n3, fun _ => trivial, fun hh => absurd c2 hh⟩⟩⟩, w1, trivial⟩, w2⟩
theorem mt_loop {m0 : Md} {f : Nat → Int32 → Md → Int32 × Md} {s : Nat → Int32 → Md → Prop} {FN : Int32 → Md → Md} {SN : Int32 → Md → Prop} {N : Nat} (hN : N < 1000) (R : Nat → List Int32) (hf0 : ∀ (fu : Nat) (x : Int32) (y : Md) (T : List Int32), MT m0 T y → nI N ≤ x → f (fu + 1) x y = (x, y) ∧ s (fu + 1) x y) (hf1 : ∀ (fu : Nat) (x : Int32) (y : Md) (T : List Int32), MT m0 T y → ¬ nI N ≤ x → f (fu + 1) x y = f fu (x + 1) (FN x y) ∧ (SN x y → s fu (x + 1) (FN x y) → s (fu + 1) x y)) (hb : ∀ (i : Nat) (T : List Int32) (m : Md), i < N → MT m0 T m → T.length + (R i).length ≤ 1900 → SN (nI i) m ∧ MT m0 (T ++ R i) (FN (nI i) m)) : ∀ (n i fu : Nat) (T : List Int32) (m : Md), i + n = N → n < fu → MT m0 T m → T.length + ((List.range' i n).flatMap R).length ≤ 1900 → s fu (nI i) m ∧ MT m0 (T ++ (List.range' i n).flatMap R) (f fu (nI i) m).2 := by
  intro n
  induction n with
  | zero =>
    intro i fu T m hi hfu h hT
    obtain ⟨fu, rfl⟩ : ∃ k, fu = k + 1 := ⟨fu - 1, by omega⟩
    have c : nI N ≤ nI i := by rw [hz_le, nI_toInt (by omega), nI_toInt (by omega)]; omega
    obtain ⟨a, b⟩ := hf0 fu (nI i) m T h c
    rw [a, show (List.range' i 0).flatMap R = [] from rfl, List.append_nil]
    exact ⟨b, h⟩
  | succ n ih =>
    intro i fu T m hi hfu h hT
    obtain ⟨fu, rfl⟩ : ∃ k, fu = k + 1 := ⟨fu - 1, by omega⟩
    have c : ¬ nI N ≤ nI i := by rw [hz_le, nI_toInt (by omega), nI_toInt (by omega)]; omega
    rw [List.range'_succ, List.flatMap_cons] at hT ⊢
    rw [List.length_append] at hT
    obtain ⟨a, b⟩ := hf1 fu (nI i) m T h c
    obtain ⟨c1, c2⟩ := hb i T m (by omega) h (by omega)
    rw [← nI_succ] at a b
    obtain ⟨d1, d2⟩ := ih (i + 1) fu (T ++ R i) (FN (nI i) m) (by omega) (by omega) c2 (by rw [List.length_append]; omega)
    rw [a, ← List.append_assoc]
    exact ⟨b c1 d1, d2⟩
def tbF (q : Sq) (z2 z3 : Int32) (x : Int32) (y : Md) : Md := fX7_writeNumbers (fX7_writeName (fX7_writeText y q) (((fX7_writeText y q).2.1 0) (z2 + (z3 * x)).toNatClampNeg)) ((z2 + (z3 * x)) + 1) (z3 - 1)
def tbS (q : Sq) (z2 z3 : Int32) (x : Int32) (y : Md) : Prop := sX7_writeText y q ∧ vp_in (z2 + (z3 * x)) 146 ∧ sX7_writeName (fX7_writeText y q) (((fX7_writeText y q).2.1 0) (z2 + (z3 * x)).toNatClampNeg) ∧ sX7_writeNumbers (fX7_writeName (fX7_writeText y q) (((fX7_writeText y q).2.1 0) (z2 + (z3 * x)).toNatClampNeg)) ((z2 + (z3 * x)) + 1) (z3 - 1)
theorem mt_table {m0 m : Md} {T : List Int32} (h : MT m0 T m) {q : Sq} {z2 z3 : Int32} {N : Nat} (hN : N < 1000) (R : Nat → List Int32) (hb : ∀ (i : Nat) (T : List Int32) (m : Md), i < N → MT m0 T m → T.length + (R i).length ≤ 1900 → tbS q z2 z3 (nI i) m ∧ MT m0 (T ++ R i) (tbF q z2 z3 (nI i) m)) (hT : T.length + ((List.range' 0 N).flatMap R).length ≤ 1900) : sX7_writeTable m q z2 z3 (nI N) ∧ MT m0 (T ++ (List.range' 0 N).flatMap R) (fX7_writeTable m q z2 z3 (nI N)) := by
  obtain ⟨a, b⟩ := mt_loop (f := fX7_writeTable_3 q z2 z3 (nI N)) (s := sX7_writeTable_3 q z2 z3 (nI N)) (FN := tbF q z2 z3) (SN := tbS q z2 z3) hN R (fun fu x y T _ c => ⟨if_pos c, fun _ => trivial, fun hh => absurd c hh⟩) (fun fu x y T _ c => ⟨if_neg c, fun s1 s2 => ⟨fun hh => absurd hh c, fun _ => ⟨s1.1, s1.2.1, s1.2.2.1, s1.2.2.2, s2⟩⟩⟩) hb N 0 (N + 1) T m (by omega) (by omega) h hT
  rw [nI_0] at a b
  have hf : fuU (nI N) 0 = N + 1 := hz_fu0 hN
  unfold sX7_writeTable fX7_writeTable
  simp only [hz_bnd]
  rw [hf]
  exact ⟨⟨a, trivial⟩, b⟩
section MTP
variable {m0 : Md} {p : Pl} {ny ns nz np : Nat}
theorem mt_rowY (hP : hz_PR p (m0.2.1 0) ny ns nz np) (i : Nat) (T : List Int32) (m : Md) (hi : i < ny) (h : MT m0 T m) (hT : T.length + (yB p i).length ≤ 1900) : tbS sq24 10 3 (nI i) m ∧ MT m0 (T ++ yB p i) (tbF sq24 10 3 (nI i) m) := by
  have hny : ny ≤ 6 := hP.2.1.1
  obtain ⟨g1, g2, g3, g4, g5⟩ := hP.2.2.2.2.2.1 i hi
  obtain ⟨a, a1, a2, a3⟩ := hz_rgN (a := 1) (b := 100) g4 (by decide)
  obtain ⟨b, b1, b2, b3⟩ := hz_rgN (a := 0) (b := 50) g5 (by decide)
  have ex : (10 : Int32) + 3 * nI i = nI (10 + 3 * i) := hz_ia2 10 3 i
  have ey : yB p i = tS14 ++ [nI 32] ++ nmB (p.2 0 i) ++ [nI 32] ++ numB a ++ [nI 32] ++ numB b ++ [nI 59] := by unfold yB; rw [a3, b3, nI_clamp (n := a) (by omega), nI_clamp (n := b) (by omega)]
  have hw1 := sbW_le a
  have hw2 := sbW_le b
  rw [ey] at hT
  simp only [List.length_append, List.length_cons, List.length_nil, numB_len, tS14_len] at hT
  obtain ⟨t1, t2⟩ := mt_text h sq24 (L := tS14) rfl (by decide) (by decide) (by show T.length + 4 ≤ 2000; omega)
  have er : ((fX7_writeText m sq24).2.1 0) (nI (10 + 3 * i)).toNatClampNeg = m0.2.1 0 (10 + 3 * i) := by rw [mt_row t2, nI_clamp (by omega)]
  obtain ⟨n1, n2, n3⟩ := mt_name t2 g1 (by rw [List.length_append, tS14_len]; omega)
  have es : nI (10 + 3 * i) + 1 = nI (11 + 3 * i) := by rw [← nI_succ, show 10 + 3 * i + 1 = 11 + 3 * i by omega]
  obtain ⟨o1, o2⟩ := mt_nums2 n2 (p := 11 + 3 * i) (z := a) (z2 := b) (by omega) (by rw [g2, a3]) (by omega) (by rw [show 11 + 3 * i + 1 = 12 + 3 * i by omega, g3, b3]) (by omega) (by simp only [List.length_append, List.length_cons, List.length_nil, tS14_len]; omega)
  unfold tbS tbF
  rw [ex, er, es, show (3 : Int32) - 1 = 2 by decide]
  refine ⟨⟨t1, vp_in_nI (by omega) (by omega), n1, o1⟩, ?_⟩
  rw [ey]
  simp only [List.append_assoc] at o2 ⊢
  exact o2
theorem mt_rowS (hP : hz_PR p (m0.2.1 0) ny ns nz np) (i : Nat) (T : List Int32) (m : Md) (hi : i < ns) (h : MT m0 T m) (hT : T.length + (sB p i).length ≤ 1900) : tbS sq25 28 2 (nI i) m ∧ MT m0 (T ++ sB p i) (tbF sq25 28 2 (nI i) m) := by
  have hns : ns ≤ 8 := hP.2.1.2.1
  obtain ⟨g1, g2, g4⟩ := hP.2.2.2.2.2.2.1 i hi
  obtain ⟨a, a1, a2, a3⟩ := hz_rgN (a := 500) (b := 9999) g4 (by decide)
  have ex : (28 : Int32) + 2 * nI i = nI (28 + 2 * i) := hz_ia2 28 2 i
  have ey : sB p i = tS15 ++ [nI 32] ++ nmB (p.2 3 i) ++ [nI 32] ++ numB a ++ [nI 59] := by unfold sB; rw [a3, nI_clamp (n := a) (by omega)]
  have hw1 := sbW_le a
  rw [ey] at hT
  simp only [List.length_append, List.length_cons, List.length_nil, numB_len, tS15_len] at hT
  obtain ⟨t1, t2⟩ := mt_text h sq25 (L := tS15) rfl (by decide) (by decide) (by show T.length + 5 ≤ 2000; omega)
  have er : ((fX7_writeText m sq25).2.1 0) (nI (28 + 2 * i)).toNatClampNeg = m0.2.1 0 (28 + 2 * i) := by rw [mt_row t2, nI_clamp (by omega)]
  obtain ⟨n1, n2, n3⟩ := mt_name t2 g1 (by rw [List.length_append, tS15_len]; omega)
  have es : nI (28 + 2 * i) + 1 = nI (29 + 2 * i) := by rw [← nI_succ, show 28 + 2 * i + 1 = 29 + 2 * i by omega]
  obtain ⟨o1, o2⟩ := mt_nums1 n2 (p := 29 + 2 * i) (z := a) (by omega) (by rw [g2, a3]) (by omega) (by simp only [List.length_append, List.length_cons, List.length_nil, tS15_len]; omega)
  unfold tbS tbF
  rw [ex, er, es, show (2 : Int32) - 1 = 1 by decide]
  refine ⟨⟨t1, vp_in_nI (by omega) (by omega), n1, o1⟩, ?_⟩
  rw [ey]
  simp only [List.append_assoc] at o2 ⊢
  exact o2
theorem mt_rowZ (hP : hz_PR p (m0.2.1 0) ny ns nz np) (i : Nat) (T : List Int32) (m : Md) (hi : i < nz) (h : MT m0 T m) (hT : T.length + (zB p i).length ≤ 1900) : tbS sq26 44 3 (nI i) m ∧ MT m0 (T ++ zB p i) (tbF sq26 44 3 (nI i) m) := by
  have hnz : nz ≤ 6 := hP.2.1.2.2.1
  obtain ⟨g1, g2, g3, g4, g5⟩ := hP.2.2.2.2.2.2.2.1 i hi
  obtain ⟨a, a1, a2, a3⟩ := hz_rgN (a := 500) (b := 9999) g4 (by decide)
  obtain ⟨b, b1, b2, b3⟩ := hz_rgN (a := 500) (b := 9999) g5 (by decide)
  have ex : (44 : Int32) + 3 * nI i = nI (44 + 3 * i) := hz_ia2 44 3 i
  have ey : zB p i = tS16 ++ [nI 32] ++ nmB (p.2 5 i) ++ [nI 32] ++ numB a ++ [nI 32] ++ numB b ++ [nI 59] := by unfold zB; rw [a3, b3, nI_clamp (n := a) (by omega), nI_clamp (n := b) (by omega)]
  have hw1 := sbW_le a
  have hw2 := sbW_le b
  rw [ey] at hT
  simp only [List.length_append, List.length_cons, List.length_nil, numB_len, tS16_len] at hT
  obtain ⟨t1, t2⟩ := mt_text h sq26 (L := tS16) rfl (by decide) (by decide) (by show T.length + 4 ≤ 2000; omega)
  have er : ((fX7_writeText m sq26).2.1 0) (nI (44 + 3 * i)).toNatClampNeg = m0.2.1 0 (44 + 3 * i) := by rw [mt_row t2, nI_clamp (by omega)]
  obtain ⟨n1, n2, n3⟩ := mt_name t2 g1 (by rw [List.length_append, tS16_len]; omega)
  have es : nI (44 + 3 * i) + 1 = nI (45 + 3 * i) := by rw [← nI_succ, show 44 + 3 * i + 1 = 45 + 3 * i by omega]
  obtain ⟨o1, o2⟩ := mt_nums2 n2 (p := 45 + 3 * i) (z := a) (z2 := b) (by omega) (by rw [g2, a3]) (by omega) (by rw [show 45 + 3 * i + 1 = 46 + 3 * i by omega, g3, b3]) (by omega) (by simp only [List.length_append, List.length_cons, List.length_nil, tS16_len]; omega)
  unfold tbS tbF
  rw [ex, er, es, show (3 : Int32) - 1 = 2 by decide]
  refine ⟨⟨t1, vp_in_nI (by omega) (by omega), n1, o1⟩, ?_⟩
  rw [ey]
  simp only [List.append_assoc] at o2 ⊢
  exact o2
end MTP
