/-! Reading back what was written: statement by statement. -/
theorem st_1 {T X R : List Int32} {y : Wd} {x : Nat} (h : NT T y (X ++ R)) (hX : ∀ c, c ∈ X → isL c) (hX0 : X ≠ []) (hR : nlet R) (hc : y.1 1 = 0) (hx : x + (X ++ R).length ≤ T.length) (z : Int32) (fu : Nat) : fX4_read_48 z (fu + 1) (nI x) y = fX4_read_48 z fu (nI (x + 1)) (hz_cs y) := by
  have t := nt_w h hX hX0 hR
  obtain ⟨⟨⟨a1, a2, a3⟩, -⟩, b, -⟩ := t
  have hl : 0 < X.length := List.length_pos_iff.mpr hX0
  rw [List.length_append] at hx
  rw [hz_r48, a2, if_neg (by rw [nI_leI (by omega) (by omega)]; omega), b, if_neg (by decide), if_pos hc, nI_1]
section CS
variable {T X R : List Int32} {w : Wd}
theorem cs_0 (h : TW T w X R) (e : X = sq0.2.2.2) : hz_cs w = fX4_readTolerance w := by
  unfold hz_cs
  rw [sp_w h okq_0, if_pos e, if_neg (by decide)]
theorem cs_1 (h : TW T w X R) (e : X = sq1.2.2.2) : hz_cs w = fX4_readSteam w := by
  unfold hz_cs
  rw [sp_w h okq_0, sp_w h okq_1, e, if_pos (by decide +kernel), if_neg (by decide +kernel)]
theorem cs_2 (h : TW T w X R) (e : X = sq2.2.2.2) : hz_cs w = fX4_readBox w := by
  unfold hz_cs
  rw [sp_w h okq_0, sp_w h okq_1, sp_w h okq_2, e, if_pos (by decide +kernel), if_pos (by decide +kernel), if_neg (by decide +kernel)]
theorem cs_3 (h : TW T w X R) (e : X = sq3.2.2.2) : hz_cs w = fX4_readYarn_6 w := by
  unfold hz_cs
  rw [sp_w h okq_0, sp_w h okq_1, sp_w h okq_2, sp_w h okq_3, e, if_pos (by decide +kernel), if_pos (by decide +kernel), if_pos (by decide +kernel), if_neg (by decide +kernel)]
theorem cs_4 (h : TW T w X R) (e : X = sq4.2.2.2) : hz_cs w = fX4_readShape_6 w := by
  unfold hz_cs
  rw [sp_w h okq_0, sp_w h okq_1, sp_w h okq_2, sp_w h okq_3, sp_w h okq_4, e, if_pos (by decide +kernel), if_pos (by decide +kernel), if_pos (by decide +kernel), if_pos (by decide +kernel), if_neg (by decide +kernel)]
theorem cs_5 (h : TW T w X R) (e : X = sq5.2.2.2) : hz_cs w = fX4_readSize_6 w := by
  unfold hz_cs
  rw [sp_w h okq_0, sp_w h okq_1, sp_w h okq_2, sp_w h okq_3, sp_w h okq_4, sp_w h okq_5, e, if_pos (by decide +kernel), if_pos (by decide +kernel), if_pos (by decide +kernel), if_pos (by decide +kernel), if_pos (by decide +kernel), if_neg (by decide +kernel)]
theorem cs_6 (h : TW T w X R) (e : X = sq6.2.2.2) : hz_cs w = fX4_readPiece_6 w := by
  unfold hz_cs
  rw [sp_w h okq_0, sp_w h okq_1, sp_w h okq_2, sp_w h okq_3, sp_w h okq_4, sp_w h okq_5, sp_w h okq_6, e, if_pos (by decide +kernel), if_pos (by decide +kernel), if_pos (by decide +kernel), if_pos (by decide +kernel), if_pos (by decide +kernel), if_pos (by decide +kernel), if_neg (by decide +kernel)]
end CS
theorem L_all {K : List Int32} (hK : K.all (fun c => decide (97 ≤ c.toNatClampNeg) && decide (c.toNatClampNeg ≤ 122) && decide (c = nI c.toNatClampNeg)) = true) : ∀ c, c ∈ K → isL c := by
  intro c hc
  have := List.all_eq_true.mp hK c hc
  simp only [Bool.and_eq_true, decide_eq_true_eq] at this
  exact ⟨c.toNatClampNeg, this.1.1, this.1.2, this.2⟩
/-- a draft that agrees with p in its settings and in a yarns, b shapes, c sizes, d pieces -/
def AG (p D : Pl) (a b c d : Nat) : Prop := (D.1 0 = nI a ∧ D.1 1 = nI b ∧ D.1 2 = nI c ∧ D.1 8 = nI d) ∧ (D.1 3 = p.1 3 ∧ D.1 4 = p.1 4 ∧ D.1 5 = p.1 5 ∧ D.1 6 = p.1 6 ∧ D.1 7 = p.1 7) ∧ (∀ j, j < a → D.2 0 j = p.2 0 j ∧ D.2 1 j = p.2 1 j ∧ D.2 2 j = p.2 2 j) ∧ (∀ j, j < b → D.2 3 j = p.2 3 j ∧ D.2 4 j = p.2 4 j) ∧ (∀ j, j < c → D.2 5 j = p.2 5 j ∧ D.2 6 j = p.2 6 j ∧ D.2 7 j = p.2 7 j) ∧ (∀ j, j < d → D.2 8 j = p.2 8 j ∧ D.2 9 j = p.2 9 j ∧ D.2 10 j = p.2 10 j ∧ D.2 11 j = p.2 11 j ∧ D.2 12 j = p.2 12 j ∧ D.2 13 j = p.2 13 j)
/-- a name that may stand in a text -/
def nmo (x : Int32) : Prop := ∃ L, hz_nmL L ∧ x = nI (hz_e5 L) ∧ nmB x = nmW L ∧ ∀ k, k ∈ kwL → ¬ nmW L = k
def vN (x : Int32) (lo hi : Nat) : Prop := lo ≤ x.toNatClampNeg ∧ x.toNatClampNeg ≤ hi ∧ x = nI x.toNatClampNeg
/-- a plant that may be written and read again -/
def VT (p : Pl) (ny ns nz np : Nat) : Prop := (ny ≤ 6 ∧ ns ≤ 8 ∧ nz ≤ 6 ∧ np ≤ 14) ∧ (vN (p.1 3) 0 500 ∧ vN (p.1 4) 0 255 ∧ vN (p.1 5) 0 100 ∧ vN (p.1 6) 1 6 ∧ p.1 7 = 0) ∧
  (∀ i, i < ny → nmo (p.2 0 i) ∧ (∀ j, j < i → ¬ p.2 0 j = p.2 0 i) ∧ vN (p.2 1 i) 1 100 ∧ vN (p.2 2 i) 0 50) ∧
  (∀ i, i < ns → nmo (p.2 3 i) ∧ (∀ j, j < i → ¬ p.2 3 j = p.2 3 i) ∧ vN (p.2 4 i) 500 9999) ∧
  (∀ i, i < nz → nmo (p.2 5 i) ∧ (∀ j, j < i → ¬ p.2 5 j = p.2 5 i) ∧ vN (p.2 6 i) 500 9999 ∧ vN (p.2 7 i) (p.2 6 i).toNatClampNeg 9999) ∧
  (∀ i, i < np → (∃ y, y < ny ∧ p.2 8 i = nI y) ∧ (∃ k, k < 3 ∧ p.2 9 i = nI k) ∧ vN (p.2 10 i) 500 9999 ∧ p.2 11 i = p.2 10 i ∧ vN (p.2 12 i) 0 255 ∧ p.2 13 i = 0)
theorem upd_s (f : Nat → Int32) (i : Nat) (v : Int32) : upd f i v i = v := pk_us ..
theorem upd_o (f : Nat → Int32) {i j : Nat} (v : Int32) (h : ¬ j = i) : upd f i v j = f j := pk_un h
section STP
variable {T R : List Int32} {y : Wd} {p : Pl} {x ny ns nz np a b c d : Nat}
/-- what stands between two statements -/
def IV (T : List Int32) (p : Pl) (y0 y : Wd) (x a b c d : Nat) (R : List Int32) : Prop := NT T y R ∧ y.1 1 = 0 ∧ x + R.length ≤ T.length ∧ RF y0 y ∧ AG p (y.2.2.1 0) a b c d
theorem sp_yarn {y0 : Wd} (hV : VT p ny ns nz np) (hi : a < ny) (h : IV T p y0 y x a b c d (yB p a ++ R)) : ∃ y1, (∀ z fu, fX4_read_48 z (fu + 1) (nI x) y = fX4_read_48 z fu (nI (x + 1)) y1) ∧ IV T p y0 y1 (x + 1) (a + 1) b c d R := by
  obtain ⟨h1, h2, h3, h4, ⟨g0, g1, g2, g3⟩, gs, gy, gsh, gz, gp⟩ := h
  obtain ⟨⟨v1, -⟩, -, vy, -⟩ := hV
  obtain ⟨⟨L, l1, l2, l3, l4⟩, l5, ⟨n1, n2, n3⟩, ⟨m1, m2, m3⟩⟩ := vy a hi
  have eT : yB p a ++ R = tS14 ++ (nI 32 :: (nmW L ++ (nI 32 :: (numB (p.2 1 a).toNatClampNeg ++ (nI 32 :: (numB (p.2 2 a).toNatClampNeg ++ (nI 59 :: R))))))) := by
    unfold yB
    rw [l3]
    simp only [List.append_assoc]
    rfl
  rw [eT] at h1 h3
  have hL : ∀ c, c ∈ tS14 → isL c := L_all (by decide +kernel)
  have h0 : tS14 ≠ [] := by decide +kernel
  have t := nt_w h1 hL h0 (nlt_32 _)
  obtain ⟨w1, r1, r2, r3, r4, q0, q1, q2, q3, q4, q5⟩ := rs_yarn (i := a) t h2 (by omega) g0 l1 l4 (fun j hj => by rw [(gy j hj).1, ← l2]; exact l5 j hj) ⟨n1, n2⟩ ⟨m1, m2⟩
  refine ⟨w1, fun z fu => ?_, r2, ?_, ?_, rf_T h4 r3, ⟨q0, (q1 1 (by decide)).trans g1, (q1 2 (by decide)).trans g2, (q1 8 (by decide)).trans g3⟩, ⟨(q1 3 (by decide)).trans gs.1, (q1 4 (by decide)).trans gs.2.1, (q1 5 (by decide)).trans gs.2.2.1, (q1 6 (by decide)).trans gs.2.2.2.1, (q1 7 (by decide)).trans gs.2.2.2.2⟩, fun j hj => ?_, fun j hj => ?_, fun j hj => ?_, fun j hj => ?_⟩
  · rw [st_1 h1 hL h0 (nlt_32 _) h2 h3, cs_3 t rfl, r1]
  · rw [r3.1 1 (by omega)]; exact h2
  · have : R.length < (tS14 ++ (nI 32 :: (nmW L ++ (nI 32 :: (numB (p.2 1 a).toNatClampNeg ++ (nI 32 :: (numB (p.2 2 a).toNatClampNeg ++ (nI 59 :: R)))))))).length := by
      simp only [List.length_append, List.length_cons]; omega
    omega
  · rw [q2, q3, q4]
    by_cases c1 : j = a
    · subst c1
      rw [upd_s, upd_s, upd_s]
      exact ⟨l2.symm, n3.symm, m3.symm⟩
    · rw [upd_o _ _ c1, upd_o _ _ c1, upd_o _ _ c1]
      exact gy j (by omega)
  · rw [q5 3 (by decide) (by decide) (by decide), q5 4 (by decide) (by decide) (by decide)]; exact gsh j hj
  · rw [q5 5 (by decide) (by decide) (by decide), q5 6 (by decide) (by decide) (by decide), q5 7 (by decide) (by decide) (by decide)]; exact gz j hj
  · rw [q5 8 (by decide) (by decide) (by decide), q5 9 (by decide) (by decide) (by decide), q5 10 (by decide) (by decide) (by decide), q5 11 (by decide) (by decide) (by decide), q5 12 (by decide) (by decide) (by decide), q5 13 (by decide) (by decide) (by decide)]; exact gp j hj
theorem sp_shape {y0 : Wd} (hV : VT p ny ns nz np) (hi : b < ns) (h : IV T p y0 y x a b c d (sB p b ++ R)) : ∃ y1, (∀ z fu, fX4_read_48 z (fu + 1) (nI x) y = fX4_read_48 z fu (nI (x + 1)) y1) ∧ IV T p y0 y1 (x + 1) a (b + 1) c d R := by
  obtain ⟨h1, h2, h3, h4, ⟨g0, g1, g2, g3⟩, gs, gy, gsh, gz, gp⟩ := h
  obtain ⟨⟨-, v1, -⟩, -, -, vs, -⟩ := hV
  obtain ⟨⟨L, l1, l2, l3, l4⟩, l5, ⟨n1, n2, n3⟩⟩ := vs b hi
  have eT : sB p b ++ R = tS15 ++ (nI 32 :: (nmW L ++ (nI 32 :: (numB (p.2 4 b).toNatClampNeg ++ (nI 59 :: R))))) := by
    unfold sB
    rw [l3]
    simp only [List.append_assoc]
    rfl
  rw [eT] at h1 h3
  have hL : ∀ c, c ∈ tS15 → isL c := L_all (by decide +kernel)
  have h0 : tS15 ≠ [] := by decide +kernel
  have t := nt_w h1 hL h0 (nlt_32 _)
  obtain ⟨w1, r1, r2, r3, r4, q0, q1, q2, q3, q5⟩ := rs_shape (i := b) t h2 (by omega) g1 l1 l4 (fun j hj => by rw [(gsh j hj).1, ← l2]; exact l5 j hj) ⟨n1, n2⟩
  refine ⟨w1, fun z fu => ?_, r2, ?_, ?_, rf_T h4 r3, ⟨(q1 0 (by decide)).trans g0, q0, (q1 2 (by decide)).trans g2, (q1 8 (by decide)).trans g3⟩, ⟨(q1 3 (by decide)).trans gs.1, (q1 4 (by decide)).trans gs.2.1, (q1 5 (by decide)).trans gs.2.2.1, (q1 6 (by decide)).trans gs.2.2.2.1, (q1 7 (by decide)).trans gs.2.2.2.2⟩, fun j hj => ?_, fun j hj => ?_, fun j hj => ?_, fun j hj => ?_⟩
  · rw [st_1 h1 hL h0 (nlt_32 _) h2 h3, cs_4 t rfl, r1]
  · rw [r3.1 1 (by omega)]; exact h2
  · have : R.length < (tS15 ++ (nI 32 :: (nmW L ++ (nI 32 :: (numB (p.2 4 b).toNatClampNeg ++ (nI 59 :: R)))))).length := by
      simp only [List.length_append, List.length_cons]; omega
    omega
  · rw [q5 0 (by decide) (by decide), q5 1 (by decide) (by decide), q5 2 (by decide) (by decide)]; exact gy j hj
  · rw [q2, q3]
    by_cases c1 : j = b
    · subst c1
      rw [upd_s, upd_s]
      exact ⟨l2.symm, n3.symm⟩
    · rw [upd_o _ _ c1, upd_o _ _ c1]
      exact gsh j (by omega)
  · rw [q5 5 (by decide) (by decide), q5 6 (by decide) (by decide), q5 7 (by decide) (by decide)]; exact gz j hj
  · rw [q5 8 (by decide) (by decide), q5 9 (by decide) (by decide), q5 10 (by decide) (by decide), q5 11 (by decide) (by decide), q5 12 (by decide) (by decide), q5 13 (by decide) (by decide)]; exact gp j hj
theorem sp_size {y0 : Wd} (hV : VT p ny ns nz np) (hi : c < nz) (h : IV T p y0 y x a b c d (zB p c ++ R)) : ∃ y1, (∀ z fu, fX4_read_48 z (fu + 1) (nI x) y = fX4_read_48 z fu (nI (x + 1)) y1) ∧ IV T p y0 y1 (x + 1) a b (c + 1) d R := by
  obtain ⟨h1, h2, h3, h4, ⟨g0, g1, g2, g3⟩, gs, gy, gsh, gz, gp⟩ := h
  obtain ⟨⟨-, -, v1, -⟩, -, -, -, vz, -⟩ := hV
  obtain ⟨⟨L, l1, l2, l3, l4⟩, l5, ⟨n1, n2, n3⟩, ⟨m1, m2, m3⟩⟩ := vz c hi
  have eT : zB p c ++ R = tS16 ++ (nI 32 :: (nmW L ++ (nI 32 :: (numB (p.2 6 c).toNatClampNeg ++ (nI 32 :: (numB (p.2 7 c).toNatClampNeg ++ (nI 59 :: R))))))) := by
    unfold zB
    rw [l3]
    simp only [List.append_assoc]
    rfl
  rw [eT] at h1 h3
  have hL : ∀ c, c ∈ tS16 → isL c := L_all (by decide +kernel)
  have h0 : tS16 ≠ [] := by decide +kernel
  have t := nt_w h1 hL h0 (nlt_32 _)
  obtain ⟨w1, r1, r2, r3, r4, q0, q1, q2, q3, q4, q5⟩ := rs_size (i := c) t h2 (by omega) g2 l1 l4 (fun j hj => by rw [(gz j hj).1, ← l2]; exact l5 j hj) ⟨n1, n2⟩ ⟨m1, m2⟩
  refine ⟨w1, fun z fu => ?_, r2, ?_, ?_, rf_T h4 r3, ⟨(q1 0 (by decide)).trans g0, (q1 1 (by decide)).trans g1, q0, (q1 8 (by decide)).trans g3⟩, ⟨(q1 3 (by decide)).trans gs.1, (q1 4 (by decide)).trans gs.2.1, (q1 5 (by decide)).trans gs.2.2.1, (q1 6 (by decide)).trans gs.2.2.2.1, (q1 7 (by decide)).trans gs.2.2.2.2⟩, fun j hj => ?_, fun j hj => ?_, fun j hj => ?_, fun j hj => ?_⟩
  · rw [st_1 h1 hL h0 (nlt_32 _) h2 h3, cs_5 t rfl, r1]
  · rw [r3.1 1 (by omega)]; exact h2
  · have : R.length < (tS16 ++ (nI 32 :: (nmW L ++ (nI 32 :: (numB (p.2 6 c).toNatClampNeg ++ (nI 32 :: (numB (p.2 7 c).toNatClampNeg ++ (nI 59 :: R)))))))).length := by
      simp only [List.length_append, List.length_cons]; omega
    omega
  · rw [q5 0 (by decide) (by decide) (by decide), q5 1 (by decide) (by decide) (by decide), q5 2 (by decide) (by decide) (by decide)]; exact gy j hj
  · rw [q5 3 (by decide) (by decide) (by decide), q5 4 (by decide) (by decide) (by decide)]; exact gsh j hj
  · rw [q2, q3, q4]
    by_cases c1 : j = c
    · subst c1
      rw [upd_s, upd_s, upd_s]
      exact ⟨l2.symm, n3.symm, m3.symm⟩
    · rw [upd_o _ _ c1, upd_o _ _ c1, upd_o _ _ c1]
      exact gz j (by omega)
  · rw [q5 8 (by decide) (by decide) (by decide), q5 9 (by decide) (by decide) (by decide), q5 10 (by decide) (by decide) (by decide), q5 11 (by decide) (by decide) (by decide), q5 12 (by decide) (by decide) (by decide), q5 13 (by decide) (by decide) (by decide)]; exact gp j hj
theorem sp_piece {y0 : Wd} (hV : VT p ny ns nz np) (hi : d < np) (h : IV T p y0 y x ny b c d (pcB p d ++ R)) : ∃ y1, (∀ z fu, fX4_read_48 z (fu + 1) (nI x) y = fX4_read_48 z fu (nI (x + 1)) y1) ∧ IV T p y0 y1 (x + 1) ny b c (d + 1) R := by
  obtain ⟨h1, h2, h3, h4, ⟨g0, g1, g2, g3⟩, gs, gy, gsh, gz, gp⟩ := h
  obtain ⟨⟨v0, -, -, v1⟩, -, vy, -, -, vp⟩ := hV
  obtain ⟨⟨yy, y1, y2⟩, ⟨kd, k1, k2⟩, ⟨n1, n2, n3⟩, n4, ⟨m1, m2, m3⟩, m4⟩ := vp d hi
  obtain ⟨⟨L, l1, l2, l3, l4⟩, l5, -⟩ := vy yy y1
  have eT : pcB p d ++ R = tS17 ++ (nI 32 :: (nmW L ++ (nI 32 :: (kdW kd ++ (nI 32 :: (numB (p.2 10 d).toNatClampNeg ++ (nI 32 :: (numB (p.2 12 d).toNatClampNeg ++ (nI 59 :: R))))))))) := by
    unfold pcB
    rw [y2, nI_clamp (by omega), l3, k2, nI_clamp (by omega)]
    simp only [List.append_assoc]
    rfl
  rw [eT] at h1 h3
  have hL : ∀ c, c ∈ tS17 → isL c := L_all (by decide +kernel)
  have h0 : tS17 ≠ [] := by decide +kernel
  have t := nt_w h1 hL h0 (nlt_32 _)
  obtain ⟨w1, r1, r2, r3, r4, q0, q1, q2, q3, q4, q5, q6, q7, q8⟩ := rs_piece (i := d) (y := yy) t h2 (by omega) g3 l1 l4 g0 v0 y1 ((gy yy y1).1.trans l2) (fun j hj => by rw [(gy j (by omega)).1, ← l2]; exact l5 j hj) k1 ⟨n1, n2⟩ ⟨m1, m2⟩
  refine ⟨w1, fun z fu => ?_, r2, ?_, ?_, rf_T h4 r3, ⟨(q1 0 (by decide)).trans g0, (q1 1 (by decide)).trans g1, (q1 2 (by decide)).trans g2, q0⟩, ⟨(q1 3 (by decide)).trans gs.1, (q1 4 (by decide)).trans gs.2.1, (q1 5 (by decide)).trans gs.2.2.1, (q1 6 (by decide)).trans gs.2.2.2.1, (q1 7 (by decide)).trans gs.2.2.2.2⟩, fun j hj => ?_, fun j hj => ?_, fun j hj => ?_, fun j hj => ?_⟩
  · rw [st_1 h1 hL h0 (nlt_32 _) h2 h3, cs_6 t rfl, r1]
  · rw [r3.1 1 (by omega)]; exact h2
  · have : R.length < (tS17 ++ (nI 32 :: (nmW L ++ (nI 32 :: (kdW kd ++ (nI 32 :: (numB (p.2 10 d).toNatClampNeg ++ (nI 32 :: (numB (p.2 12 d).toNatClampNeg ++ (nI 59 :: R)))))))))).length := by
      simp only [List.length_append, List.length_cons]; omega
    omega
  · rw [q8 0 (by decide), q8 1 (by decide), q8 2 (by decide)]; exact gy j hj
  · rw [q8 3 (by decide), q8 4 (by decide)]; exact gsh j hj
  · rw [q8 5 (by decide), q8 6 (by decide), q8 7 (by decide)]; exact gz j hj
  · rw [q2, q3, q4, q5, q6, q7]
    by_cases c1 : j = d
    · subst c1
      rw [upd_s, upd_s, upd_s, upd_s, upd_s, upd_s]
      exact ⟨y2.symm, k2.symm, n3.symm, by rw [n4]; exact n3.symm, m3.symm, m4.symm⟩
    · rw [upd_o _ _ c1, upd_o _ _ c1, upd_o _ _ c1, upd_o _ _ c1, upd_o _ _ c1, upd_o _ _ c1]
      exact gp j (by omega)
end STP
